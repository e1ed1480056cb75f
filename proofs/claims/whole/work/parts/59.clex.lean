/-! the reader, the class's side -/
def TP (v : gV) (T : Nat → Nat) (q : Nat) : Prop := v 5 1 = nI q ∧ q ≤ 160 ∧ ∀ i, i < q → v 13 i = nI (T i) ∧ T i ≤ 255
theorem TP_g {v : gV} {T : Nat → Nat} {q : Nat} {g : Nat → Int32} (h : TP v T q) (hg : g 1 = nI q) : TP (up2 v 5 g) T q := ⟨by rw [up2_eq]; exact hg, h.2.1, fun i hi => by rw [up2_ne (by decide)]; exact h.2.2 i hi⟩
theorem cByte {v : gV} {T : Nat → Nat} {q p : Nat} (h : TP v T q) (hp : p ≤ q) : fX3_byteAt v (nI p) = some (if p < q then nI (T p) else -1, v) := by
  obtain ⟨h1, h2, h3⟩ := h
  unfold fX3_byteAt
  rw [if_neg (nI_pos (by omega)), h1]
  by_cases c : p < q
  · rw [if_neg (nI_nleL rfl rfl c (by omega)), if_neg (nI_nleL (x := 160) (a := 160) rfl rfl (by omega) (by decide)), if_pos (gin_nI (by omega) (by decide)), nI_clamp (by omega), (h3 p c).1, if_pos c]
  · rw [if_pos (nI_yleL rfl rfl (by omega) (by omega)), if_neg c]
theorem cByteT {v : gV} {T : Nat → Nat} {q p : Nat} (h : TP v T q) (hp : p < q) : fX3_byteAt v (nI p) = some (nI (T p), v) := by
  rw [cByte h (by omega), if_pos hp]
theorem cByteE {v : gV} {T : Nat → Nat} {q : Nat} (h : TP v T q) : fX3_byteAt v (nI q) = some (-1, v) := by
  rw [cByte h (Nat.le_refl _), if_neg (Nat.lt_irrefl _)]
theorem nI_yes {c k : Nat} (h : c = k) : nI c = nI k := by rw [h]
theorem cBlank {v : gV} {c : Nat} (hc : c ≤ 255) : fX3_isBlank v (nI c) = some (if bl c = true then 1 else 0, v) := by
  unfold fX3_isBlank fX3_isBlank_12 bl
  rw [show (32 : Int32) = nI 32 from rfl, show (10 : Int32) = nI 10 from rfl]
  by_cases h1 : c = 32
  · rw [if_pos (nI_yes h1), if_pos (decide_eq_true (Or.inl h1))]
  · rw [if_neg (nI_neL rfl rfl h1 (by omega) (by decide))]
    by_cases h2 : c = 10
    · rw [if_pos (nI_yes h2), if_pos (decide_eq_true (Or.inr h2))]
    · rw [if_neg (nI_neL rfl rfl h2 (by omega) (by decide)), if_neg (fun z => (of_decide_eq_true z).elim h1 h2)]
theorem cLetter {v : gV} {c : Nat} (hc : c ≤ 255) : fX3_isLetter v (nI c) = some (if lt c = true then 1 else 0, v) := by
  unfold fX3_isLetter lt
  rw [show (97 : Int32) = nI 97 from rfl, show (122 : Int32) = nI 122 from rfl]
  by_cases h1 : c < 97
  · rw [if_pos (nI_yltL rfl rfl h1 (by decide)), if_neg (fun z => by have := of_decide_eq_true z; omega)]
  · rw [if_neg (nI_nltL rfl rfl (by omega) (by omega))]
    by_cases h2 : 122 < c
    · rw [if_pos (nI_yltL rfl rfl h2 (by omega)), if_neg (fun z => by have := of_decide_eq_true z; omega)]
    · rw [if_neg (nI_nltL rfl rfl (by omega) (by decide)), if_pos (decide_eq_true ⟨by omega, by omega⟩)]
theorem cDigit {v : gV} {c : Nat} (hc : c ≤ 255) : fX3_isDigit v (nI c) = some (if dt c = true then 1 else 0, v) := by
  unfold fX3_isDigit dt
  rw [show (48 : Int32) = nI 48 from rfl, show (57 : Int32) = nI 57 from rfl]
  by_cases h1 : c < 48
  · rw [if_pos (nI_yltL rfl rfl h1 (by decide)), if_neg (fun z => by have := of_decide_eq_true z; omega)]
  · rw [if_neg (nI_nltL rfl rfl (by omega) (by omega))]
    by_cases h2 : 57 < c
    · rw [if_pos (nI_yltL rfl rfl h2 (by omega)), if_neg (fun z => by have := of_decide_eq_true z; omega)]
    · rw [if_neg (nI_nltL rfl rfl (by omega) (by decide)), if_pos (decide_eq_true ⟨by omega, by omega⟩)]
theorem cSign {v : gV} {c : Nat} (hc : c ≤ 255) : fX3_isSign v (nI c) = some (if sg c = true then 1 else 0, v) := by
  unfold fX3_isSign fX3_isSign_48
  rw [show (40 : Int32) = nI 40 from rfl, show (41 : Int32) = nI 41 from rfl, show (59 : Int32) = nI 59 from rfl, show (43 : Int32) = nI 43 from rfl, show (45 : Int32) = nI 45 from rfl, show (42 : Int32) = nI 42 from rfl, show (60 : Int32) = nI 60 from rfl, show (61 : Int32) = nI 61 from rfl]
  have e : ∀ k, k < 256 → (nI c = nI k ↔ c = k) := fun k hk => nI_eq (by omega) (by omega)
  simp only [e 40 (by decide), e 41 (by decide), e 59 (by decide), e 43 (by decide), e 45 (by decide), e 42 (by decide), e 60 (by decide), e 61 (by decide)]
  unfold sg
  by_cases h : c = 40 ∨ c = 41 ∨ c = 59 ∨ c = 43 ∨ c = 45 ∨ c = 42 ∨ c = 60 ∨ c = 61
  · rw [if_pos (decide_eq_true h)]
    rcases h with h | h | h | h | h | h | h | h <;> subst h <;> rfl
  · rw [if_neg (fun z => h (of_decide_eq_true z)), if_neg (by omega), if_neg (by omega), if_neg (by omega), if_neg (by omega), if_neg (by omega), if_neg (by omega), if_neg (by omega), if_neg (by omega)]
theorem cNo {v : gV} : fX3_isBlank v (-1) = some (0, v) ∧ fX3_isLetter v (-1) = some (0, v) ∧ fX3_isDigit v (-1) = some (0, v) := ⟨rfl, rfl, rfl⟩
theorem cSkip {v : gV} {T : Nat → Nat} {q : Nat} (h : TP v T q) : ∀ (k p i fuel : Nat) (g : Nat → Int32), k < fuel → p + k = q → i ≤ p → g 1 = nI q → g 2 = nI p → fX3_step_2 fuel (up2 v 5 g) (nI i) = fX3_step_39 (up2 v 5 (upd g 2 (nI (er bl T q p)))) := by
  intro k
  induction k with
  | zero =>
    intro p i fuel g hf hp hi h1 h2
    obtain ⟨n, rfl⟩ : ∃ n, fuel = n + 1 := ⟨fuel - 1, by omega⟩
    have hq := h.2.1
    obtain rfl : p = q := by omega
    rw [er_stop (Nat.le_refl _), ← h2, upd_self, fX3_step_2, up2_eq, h2]
    by_cases c : 160 ≤ i
    · rw [if_pos (nI_yleL (x := 160) (a := 160) rfl rfl c (by omega))]
    · rw [if_neg (nI_nleL (x := 160) (a := 160) rfl rfl (by omega) (by decide)), cByteE (TP_g h h1), gB_some, cNo.1, gB_some, if_pos rfl]
  | succ k ih =>
    intro p i fuel g hf hp hi h1 h2
    obtain ⟨n, rfl⟩ : ∃ n, fuel = n + 1 := ⟨fuel - 1, by omega⟩
    have hq := h.2.1
    have hT := (h.2.2 p (by omega)).2
    rw [fX3_step_2, if_neg (nI_nleL (x := 160) (a := 160) rfl rfl (by omega) (by decide)), up2_eq, h2, cByteT (TP_g h h1) (by omega), gB_some, cBlank hT, gB_some]
    by_cases c : bl (T p) = true
    · rw [if_pos c, if_neg ne10, er_go (by omega) c, up2_eq, h2, nI_1, nI_1, up1_up2, ih (p + 1) (i + 1) n (upd g 2 (nI (p + 1))) (by omega) (by omega) (by omega) (by rw [upd_ne (by decide)]; exact h1) (by rw [upd_eq]), upd_upd]
    · rw [if_neg c, if_pos rfl, er_no c, ← h2, upd_self]
theorem cWord2 {v : gV} {T : Nat → Nat} {q : Nat} (h : TP v T q) : ∀ (k p i fuel : Nat) (g : Nat → Int32), k < fuel → p + k = q → i ≤ p → g 1 = nI q → g 2 = nI p → fX3_stepOverWord_2 fuel (up2 v 5 g) (nI i) = fX3_stepOverWord_39 (up2 v 5 (upd g 2 (nI (er lt T q p)))) := by
  intro k
  induction k with
  | zero =>
    intro p i fuel g hf hp hi h1 h2
    obtain ⟨n, rfl⟩ : ∃ n, fuel = n + 1 := ⟨fuel - 1, by omega⟩
    have hq := h.2.1
    obtain rfl : p = q := by omega
    rw [er_stop (Nat.le_refl _), ← h2, upd_self, fX3_stepOverWord_2, up2_eq, h2]
    by_cases c : 160 ≤ i
    · rw [if_pos (nI_yleL (x := 160) (a := 160) rfl rfl c (by omega))]
    · rw [if_neg (nI_nleL (x := 160) (a := 160) rfl rfl (by omega) (by decide)), cByteE (TP_g h h1), gB_some, cNo.2.1, gB_some, if_pos rfl]
  | succ k ih =>
    intro p i fuel g hf hp hi h1 h2
    obtain ⟨n, rfl⟩ : ∃ n, fuel = n + 1 := ⟨fuel - 1, by omega⟩
    have hq := h.2.1
    have hT := (h.2.2 p (by omega)).2
    rw [fX3_stepOverWord_2, if_neg (nI_nleL (x := 160) (a := 160) rfl rfl (by omega) (by decide)), up2_eq, h2, cByteT (TP_g h h1) (by omega), gB_some, cLetter hT, gB_some]
    by_cases c : lt (T p) = true
    · rw [if_pos c, if_neg ne10, er_go (by omega) c, up2_eq, h2, nI_1, nI_1, up1_up2, ih (p + 1) (i + 1) n (upd g 2 (nI (p + 1))) (by omega) (by omega) (by omega) (by rw [upd_ne (by decide)]; exact h1) (by rw [upd_eq]), upd_upd]
    · rw [if_neg c, if_pos rfl, er_no c, ← h2, upd_self]
/-- the digits, one after another, without bound -/
def numG (T : Nat → Nat) : Nat → Nat → Int32 → Int32
  | 0, _, z => z
  | k + 1, p, z => numG T k (p + 1) (z * 10 + nI (T p) - 48)
theorem numG_N {T : Nat → Nat} : ∀ (k p z : Nat), (∀ j, p ≤ j → j < p + k → dt (T j) = true) → numG T k p (nI z) = nI (numN T k p z) := by
  intro k
  induction k with
  | zero => intro p z _; rfl
  | succ k ih =>
    intro p z h
    have h0 : 48 ≤ T p ∧ T p ≤ 57 := of_decide_eq_true (h p (Nat.le_refl _) (by omega))
    unfold numG numN
    rw [show (10 : Int32) = nI 10 from rfl, show (48 : Int32) = nI 48 from rfl, pk_mul, nI_add, pk_sub (by omega)]
    exact ih (p + 1) _ (fun j a b => h j (by omega) (by omega))
theorem cNum7 {v : gV} {T : Nat → Nat} {q : Nat} (h : TP v T q) : ∀ (k p i fuel : Nat) (g : Nat → Int32), k < fuel → p + k = q → i ≤ p → g 1 = nI q → g 2 = nI p → fX3_stepOverNumber_7 fuel (up2 v 5 g) (nI i) = fX3_stepOverNumber_67 (up2 v 5 (upd (upd g 5 (numG T (er dt T q p - p) p (g 5))) 2 (nI (er dt T q p)))) := by
  intro k
  induction k with
  | zero =>
    intro p i fuel g hf hp hi h1 h2
    obtain ⟨n, rfl⟩ : ∃ n, fuel = n + 1 := ⟨fuel - 1, by omega⟩
    have hq := h.2.1
    obtain rfl : p = q := by omega
    rw [er_stop (Nat.le_refl _), Nat.sub_self, show numG T 0 p (g 5) = g 5 from rfl, upd_self, ← h2, upd_self, fX3_stepOverNumber_7, up2_eq, h2]
    by_cases c : 160 ≤ i
    · rw [if_pos (nI_yleL (x := 160) (a := 160) rfl rfl c (by omega))]
    · rw [if_neg (nI_nleL (x := 160) (a := 160) rfl rfl (by omega) (by decide)), cByteE (TP_g h h1), gB_some, cNo.2.2, gB_some, if_pos rfl]
  | succ k ih =>
    intro p i fuel g hf hp hi h1 h2
    obtain ⟨n, rfl⟩ : ∃ n, fuel = n + 1 := ⟨fuel - 1, by omega⟩
    have hq := h.2.1
    have hT := (h.2.2 p (by omega)).2
    rw [fX3_stepOverNumber_7, if_neg (nI_nleL (x := 160) (a := 160) rfl rfl (by omega) (by decide)), up2_eq, h2, cByteT (TP_g h h1) (by omega), gB_some, cDigit hT, gB_some]
    by_cases c : dt (T p) = true
    · obtain ⟨s1, s2, -⟩ := er_spec (P := dt) (T := T) (q := q) (q - (p + 1)) (p + 1) (by omega)
      rw [if_pos c, if_neg ne10, up2_eq, h2, cByteT (TP_g h h1) (by omega), gB_some, er_go (by omega) c, up1_up2, up2_eq, upd_ne (show 2 ≠ 5 by decide), h2, nI_1, nI_1, up1_up2, ih (p + 1) (i + 1) n _ (by omega) (by omega) (by omega) (by rw [upd_ne (by decide), upd_ne (by decide)]; exact h1) (by rw [upd_eq]), upd_ne (show 5 ≠ 2 by decide), upd_eq, upd_comm (show 2 ≠ 5 by decide), upd_upd, upd_upd, show er dt T q (p + 1) - p = (er dt T q (p + 1) - (p + 1)) + 1 by omega]
      rfl
    · rw [if_neg c, if_pos rfl, er_no c, Nat.sub_self, show numG T 0 p (g 5) = g 5 from rfl, upd_self, ← h2, upd_self]
theorem cSpell {v : gV} {T : Nat → Nat} {q b : Nat} {g : Nat → Int32} (h : TP v T q) (h1 : g 1 = nI q) (h3 : g 3 = nI b) {w : Nat} (hw : w < 12) (hl : b + gWlen.getD w 0 ≤ q) : ∀ (k i fuel : Nat), k < fuel → i + k = gWlen.getD w 0 → (∀ j, j < i → gwc w j = nI (T (b + j))) → ((∀ j, j < gWlen.getD w 0 → gwc w j = nI (T (b + j))) ∧ fX3_isSpelled_20 fuel (up2 v 5 g) w (nI i) = some (1, up2 v 5 g)) ∨ ((¬ ∀ j, j < gWlen.getD w 0 → gwc w j = nI (T (b + j))) ∧ fX3_isSpelled_20 fuel (up2 v 5 g) w (nI i) = some (0, up2 v 5 g)) := by
  have hL := gW_len w hw
  have hq := h.2.1
  intro k
  induction k with
  | zero =>
    intro i fuel hf hi hp
    obtain ⟨n, rfl⟩ : ∃ n, fuel = n + 1 := ⟨fuel - 1, by omega⟩
    rw [fX3_isSpelled_20, if_pos (show gwl w ≤ nI i from nI_yleL (x := gwl w) (a := gWlen.getD w 0) rfl rfl (by omega) (by omega))]
    exact Or.inl ⟨fun j hj => hp j (by omega), rfl⟩
  | succ k ih =>
    intro i fuel hf hi hp
    obtain ⟨n, rfl⟩ : ∃ n, fuel = n + 1 := ⟨fuel - 1, by omega⟩
    rw [fX3_isSpelled_20, if_neg (show ¬ gwl w ≤ nI i from nI_nleL (x := gwl w) (a := gWlen.getD w 0) rfl rfl (by omega) (by omega)), if_pos (gin_nI (by omega) (by omega)), up2_eq, h3, nI_add, cByteT (TP_g h h1) (by omega), gB_some, nI_clamp (by omega)]
    by_cases c : gwc w i = nI (T (b + i))
    · rw [if_pos c, nI_1]
      exact ih (i + 1) n (by omega) (by omega) (fun j hj => by
        by_cases e : j = i
        · rw [e]; exact c
        · exact hp j (by omega))
    · rw [if_neg c]
      exact Or.inr ⟨fun z => c (z i (by omega)), rfl⟩
theorem cIsWord {v : gV} {T : Nat → Nat} {q b e : Nat} {g : Nat → Int32} (h : TP v T q) (h1 : g 1 = nI q) (h2 : g 2 = nI e) (h3 : g 3 = nI b) (hb : b ≤ e) (he : e ≤ q) {w : Nat} (hw : w < 12) : (mt T b e w ∧ fX3_isSpelled (up2 v 5 g) w = some (1, up2 v 5 g)) ∨ (¬ mt T b e w ∧ fX3_isSpelled (up2 v 5 g) w = some (0, up2 v 5 g)) := by
  have hL := gW_len w hw
  have hq := h.2.1
  unfold fX3_isSpelled mt
  rw [up2_eq, h2, h3, pk_sub hb]
  by_cases c : gWlen.getD w 0 = e - b
  · rw [if_pos (show gwl w = nI (e - b) by rw [← c]; rfl)]
    rcases cSpell h h1 h3 hw (by omega) (gWlen.getD w 0) 0 2000 (by omega) (by omega) (fun j hj => absurd hj (Nat.not_lt_zero j)) with ⟨z, y⟩ | ⟨z, y⟩
    · exact Or.inl ⟨⟨c, z⟩, y⟩
    · exact Or.inr ⟨fun x => z x.2, y⟩
  · rw [if_neg (show ¬ gwl w = nI (e - b) from nI_neL (x := gwl w) (a := gWlen.getD w 0) rfl rfl c (by omega) (by omega))]
    exact Or.inr ⟨fun x => c x.1, rfl⟩
theorem cSpg {v : gV} : ∀ i, i < 12 → fX3_spelling v (nI i) = some (i, v)
  | 0, _ => rfl
  | 1, _ => rfl
  | 2, _ => rfl
  | 3, _ => rfl
  | 4, _ => rfl
  | 5, _ => rfl
  | 6, _ => rfl
  | 7, _ => rfl
  | 8, _ => rfl
  | 9, _ => rfl
  | 10, _ => rfl
  | 11, _ => rfl
theorem cWord46 {v : gV} {T : Nat → Nat} {q b e : Nat} (h : TP v T q) (hb : b ≤ e) (he : e ≤ q) : ∀ (k i fuel z : Nat) (g : Nat → Int32), k < fuel → i + k = 12 → g 1 = nI q → g 2 = nI e → g 3 = nI b → g 4 = nI z → fX3_stepOverWord_46 fuel (up2 v 5 g) (nI i) = some ((), up2 v 5 (upd g 4 (nI (if fnd (mt T b e) k i < 12 then 300 + fnd (mt T b e) k i else z)))) := by
  intro k
  induction k with
  | zero =>
    intro i fuel z g hf hi h1 h2 h3 h4
    obtain ⟨n, rfl⟩ : ∃ n, fuel = n + 1 := ⟨fuel - 1, by omega⟩
    obtain rfl : i = 12 := by omega
    rw [fX3_stepOverWord_46, if_pos (show (12 : Int32) ≤ nI 12 by decide), if_neg (show ¬ fnd (mt T b e) 0 12 < 12 by unfold fnd; decide), ← h4, upd_self]
  | succ k ih =>
    intro i fuel z g hf hi h1 h2 h3 h4
    obtain ⟨n, rfl⟩ : ∃ n, fuel = n + 1 := ⟨fuel - 1, by omega⟩
    have hw : i < 12 := by omega
    rw [fX3_stepOverWord_46, if_neg (nI_nleL (x := 12) (a := 12) rfl rfl hw (by decide)), cSpg i hw, gB_some, if_pos hw]
    unfold fX3_stepOverWord_72
    rcases cIsWord h h1 h2 h3 hb he hw with ⟨m, y⟩ | ⟨m, y⟩
    · rw [y, gB_some, if_neg ne10, nI_1, show (300 : Int32) = nI 300 from rfl, nI_add, up1_up2, ih (i + 1) n (300 + i) _ (by omega) (by omega) (by rw [upd_ne (by decide)]; exact h1) (by rw [upd_ne (by decide)]; exact h2) (by rw [upd_ne (by decide)]; exact h3) (by rw [upd_eq]), fnd_yes m, if_pos hw, upd_upd]
      rcases fnd_spec (m := mt T b e) k (i + 1) (by omega) with ⟨f1, -⟩ | ⟨f1, f2, f3⟩
      · rw [f1, if_neg (by decide)]
      · have := mt_one hw f2 m f3
        omega
    · rw [y, gB_some, if_pos rfl, nI_1, ih (i + 1) n z g (by omega) (by omega) h1 h2 h3 h4, fnd_no m]
/-- a step of the class's reader -/
theorem cStep {v : gV} {T : Nat → Nat} {q p : Nat} (h : TP v T q) (hp : p ≤ q) (h2 : v 5 2 = nI p) : ∃ g, fX3_step v = some ((), up2 v 5 g) ∧ g 2 = nI (nx T q p) ∧ g 3 = nI (bg T q p) ∧ g 4 = nI (tk T q p) ∧ (tk T q p = 2 → g 5 = nI (nm T q p)) ∧ ∀ k, k < 2 ∨ 5 < k → g k = v 5 k := by
  have hq := h.2.1
  obtain ⟨hb1, hb2⟩ := bg_le (T := T) hp
  have s := cSkip h (q - p) p 0 2000 (v 5) (by omega) (by omega) (by omega) h.1 h2
  rw [up2_self] at s
  have s' : fX3_step v = _ := s
  rw [s', show er bl T q p = bg T q p from rfl]
  unfold nx tk nm fX3_step_39
  generalize bg T q p = b at *
  have e1 : up1 (up2 v 5 (upd (v 5) 2 (nI b))) 5 3 ((up2 v 5 (upd (v 5) 2 (nI b))) 5 2) = up2 v 5 (upd (upd (v 5) 2 (nI b)) 3 (nI b)) := by
    rw [up2_eq, up1_up2, upd_eq]
  rw [e1, up2_eq, upd_ne (show 2 ≠ 3 by decide), upd_eq]
  have G1 : (upd (upd (v 5) 2 (nI b)) 3 (nI b)) 1 = nI q := by rw [upd_ne (by decide), upd_ne (by decide)]; exact h.1
  have G2 : (upd (upd (v 5) 2 (nI b)) 3 (nI b)) 2 = nI b := by rw [upd_ne (by decide), upd_eq]
  have G3 : (upd (upd (v 5) 2 (nI b)) 3 (nI b)) 3 = nI b := by rw [upd_eq]
  have GK : ∀ k, k < 2 ∨ 5 < k → (upd (upd (v 5) 2 (nI b)) 3 (nI b)) k = v 5 k := fun k hk => by rw [upd_ne (by omega), upd_ne (by omega)]
  generalize upd (upd (v 5) 2 (nI b)) 3 (nI b) = g at *
  by_cases c : b < q
  · have hT := (h.2.2 b c).2
    have hne : ¬ (0 : Int32) ≤ -1 := by decide
    rw [if_pos c, if_pos c, cByteT (TP_g h G1) c, gB_some, if_pos (nI_pos' (by omega)), cLetter hT, gB_some]
    by_cases l : lt (T b) = true
    · obtain ⟨g1, g2, g3, -⟩ := er_spec (P := lt) (T := T) (q := q) (q - b) b (by omega)
      unfold fX3_stepOverWord
      rw [if_pos l, if_pos l, if_pos l, if_neg ne10, show (0 : Int32) = nI 0 from rfl, cWord2 h (q - b) b 0 2000 g (by omega) (by omega) (by omega) G1 G2]
      unfold fX3_stepOverWord_39
      rw [up1_up2, show (1 : Int32) = nI 1 from rfl, show (0 : Int32) = nI 0 from rfl, cWord46 h g1 g2 12 0 2000 1 _ (by omega) (by omega) (by rw [upd_ne (by decide), upd_ne (by decide)]; exact G1) (by rw [upd_ne (by decide), upd_eq]) (by rw [upd_ne (by decide), upd_ne (by decide)]; exact G3) (by rw [upd_eq]), gB_some]
      refine ⟨_, rfl, ?_, ?_, ?_, ?_, ?_⟩
      · rw [upd_ne (by decide), upd_ne (by decide), upd_eq]
      · rw [upd_ne (by decide), upd_ne (by decide), upd_ne (by decide)]; exact G3
      · rw [upd_eq]; rfl
      · intro z
        split at z <;> omega
      · intro k hk
        rw [upd_ne (by omega), upd_ne (by omega), upd_ne (by omega)]; exact GK k hk
    · rw [if_neg l, if_neg l, if_neg l, if_pos rfl, cDigit hT, gB_some]
      by_cases d : dt (T b) = true
      · obtain ⟨g1, g2, g3, -⟩ := er_spec (P := dt) (T := T) (q := q) (q - b) b (by omega)
        unfold fX3_stepOverNumber
        rw [if_pos d, if_pos d, if_pos d, if_neg ne10, up1_up2, show (0 : Int32) = nI 0 from rfl, cNum7 h (q - b) b 0 2000 (upd g 5 (nI 0)) (by omega) (by omega) (by omega) (by rw [upd_ne (by decide)]; exact G1) (by rw [upd_ne (by decide)]; exact G2), upd_eq, upd_upd, numG_N _ _ _ (fun j a z => g3 j a (by omega))]
        unfold fX3_stepOverNumber_67
        have H2 : (upd (upd g 5 (nI (numN T (er dt T q b - b) b 0))) 2 (nI (er dt T q b))) 2 = nI (er dt T q b) := by rw [upd_eq]
        have H3 : (upd (upd g 5 (nI (numN T (er dt T q b - b) b 0))) 2 (nI (er dt T q b))) 3 = nI b := by rw [upd_ne (by decide), upd_ne (by decide)]; exact G3
        have H5 : (upd (upd g 5 (nI (numN T (er dt T q b - b) b 0))) 2 (nI (er dt T q b))) 5 = nI (numN T (er dt T q b - b) b 0) := by rw [upd_ne (by decide), upd_eq]
        have HK : ∀ k, k < 2 ∨ 5 < k → (upd (upd g 5 (nI (numN T (er dt T q b - b) b 0))) 2 (nI (er dt T q b))) k = v 5 k := fun k hk => by rw [upd_ne (by omega), upd_ne (by omega)]; exact GK k hk
        generalize upd (upd g 5 (nI (numN T (er dt T q b - b) b 0))) 2 (nI (er dt T q b)) = y at *
        rw [up2_eq, H2, H3, pk_sub g1]
        by_cases w : er dt T q b - b ≤ 4
        · rw [if_pos (nI_yleL (y := 4) (b := 4) rfl rfl w (by decide)), up1_up2, gB_some, if_pos w]
          exact ⟨_, rfl, by rw [upd_ne (by decide)]; exact H2, by rw [upd_ne (by decide)]; exact H3, by rw [upd_eq]; rfl, fun _ => by rw [upd_ne (by decide)]; exact H5, fun k hk => by rw [upd_ne (by omega)]; exact HK k hk⟩
        · rw [if_neg (nI_nleL (y := 4) (b := 4) rfl rfl (by omega) (by omega)), up1_up2, gB_some, if_neg w]
          exact ⟨_, rfl, by rw [upd_ne (by decide)]; exact H2, by rw [upd_ne (by decide)]; exact H3, by rw [upd_eq]; rfl, fun z => absurd z (by decide), fun k hk => by rw [upd_ne (by omega)]; exact HK k hk⟩
      · rw [if_neg d, if_neg d, if_neg d, if_pos rfl, cSign hT, gB_some]
        unfold fX3_step_109
        by_cases s : sg (T b) = true
        · rw [if_pos s, if_pos s, if_neg ne10, up1_up2, up2_eq, upd_ne (show 2 ≠ 4 by decide), G2, nI_1, up1_up2]
          refine ⟨_, rfl, by rw [upd_eq], by rw [upd_ne (by decide), upd_ne (by decide)]; exact G3, by rw [upd_ne (by decide), upd_eq], fun z => ?_, fun k hk => by rw [upd_ne (by omega), upd_ne (by omega)]; exact GK k hk⟩
          have := sg_cases s
          omega
        · rw [if_neg s, if_neg s, if_pos rfl, up1_up2, up2_eq, upd_ne (show 2 ≠ 4 by decide), G2, nI_1, up1_up2]
          exact ⟨_, rfl, by rw [upd_eq], by rw [upd_ne (by decide), upd_ne (by decide)]; exact G3, by rw [upd_ne (by decide), upd_eq]; rfl, fun z => absurd z (by decide), fun k hk => by rw [upd_ne (by omega), upd_ne (by omega)]; exact GK k hk⟩
  · obtain rfl : b = q := by omega
    rw [if_neg c, if_neg c, cByteE (TP_g h G1), gB_some, if_neg (by decide), up1_up2]
    exact ⟨_, rfl, by rw [upd_ne (by decide)]; exact G2, by rw [upd_ne (by decide)]; exact G3, by rw [upd_eq]; rfl, fun z => absurd z (by decide), fun k hk => by rw [upd_ne (by omega)]; exact GK k hk⟩
