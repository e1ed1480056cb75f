/-! what a text says, on both sides: codes as the reference has them -/
def mPl (c : Nat) : Nat := ([6, 5, 0, 1, 2, 3] : List Nat).getD c 0
def mVal (s : Nat → Int32) (c : Nat) : Int32 := if c < 6 then s (mPl c) else nI (c - 100000)
def mOp (c : Nat) (a b : Int32) : Int32 :=
  if c = 11 then (if a = 0 then (if b = 0 then 0 else 1) else 1) else if c = 12 then (if a = 0 then 0 else if b = 0 then 0 else 1) else if c = 14 then (if b ≤ a then 0 else 1) else if c = 15 then (if a = b then 1 else 0) else if c = 16 then a + b else if c = 17 then a - b else a * b
/-- the class's code for one of the reference's -/
def mEnc (c : Nat) : Nat := if c < 6 then 10000 + mPl c else if 100000 ≤ c then c - 100000 else ([20008, 20007, 20001, 20005, 20006, 20003, 20004, 20002, 20000] : List Nat).getD (c - 11) 0
def isPu (c : Nat) : Prop := c < 6 ∨ (100000 ≤ c ∧ c ≤ 109999)
def isBi (c : Nat) : Prop := c = 11 ∨ c = 12 ∨ c = 14 ∨ c = 15 ∨ c = 16 ∨ c = 17 ∨ c = 18
def isCo (c : Nat) : Prop := isPu c ∨ c = 13 ∨ c = 19 ∨ isBi c
/-- codes from i on, m of them, over the stack f of height h -/
def evN (c : Nat → Nat) (s : Nat → Int32) : Nat → Nat → (Nat → Int32) → Nat → (Nat → Int32)
  | 0, _, f, _ => f
  | m + 1, i, f, h =>
    if c i < 6 ∨ 100000 ≤ c i then evN c s m (i + 1) (upd f h (mVal s (c i))) (h + 1)
    else if c i = 13 then evN c s m (i + 1) (upd f (h - 1) (if f (h - 1) = 0 then 1 else 0)) h
    else if c i = 19 then evN c s m (i + 1) (upd f (h - 1) (-(f (h - 1)))) h
    else evN c s m (i + 1) (upd f (h - 2) (mOp (c i) (f (h - 2)) (f (h - 1)))) (h - 1)
/-- these codes never ask more than stands there, nor pile up more than 40 -/
def wfN (c : Nat → Nat) : Nat → Nat → Nat → Prop
  | 0, _, h => 1 ≤ h
  | m + 1, i, h =>
    if c i < 6 ∨ 100000 ≤ c i then h < 40 ∧ wfN c m (i + 1) (h + 1)
    else if c i = 13 ∨ c i = 19 then 1 ≤ h ∧ wfN c m (i + 1) h
    else 2 ≤ h ∧ wfN c m (i + 1) (h - 1)
theorem evN_irr {c : Nat → Nat} {s : Nat → Int32} : ∀ (m i h : Nat) (f g : Nat → Int32), wfN c m i h → (∀ j, j < h → f j = g j) → evN c s m i f h 0 = evN c s m i g h 0 := by
  intro m
  induction m with
  | zero =>
    intro i h f g hw hj
    exact hj 0 hw
  | succ m ih =>
    intro i h f g hw hj
    unfold wfN at hw
    unfold evN
    by_cases h1 : c i < 6 ∨ 100000 ≤ c i
    · rw [if_pos h1] at hw ⊢
      rw [if_pos h1]
      refine ih _ _ _ _ hw.2 (fun j hjh => ?_)
      by_cases e : j = h
      · rw [e, upd_eq, upd_eq]
      · rw [upd_ne e, upd_ne e]
        exact hj j (by omega)
    · rw [if_neg h1] at hw ⊢
      rw [if_neg h1]
      by_cases h2 : c i = 13
      · rw [if_pos (Or.inl h2)] at hw
        rw [if_pos h2, if_pos h2]
        refine ih _ _ _ _ hw.2 (fun j hjh => ?_)
        rw [hj (h - 1) (by omega)]
        by_cases e : j = h - 1
        · rw [e, upd_eq, upd_eq]
        · rw [upd_ne e, upd_ne e]
          exact hj j hjh
      · rw [if_neg h2, if_neg h2]
        by_cases h3 : c i = 19
        · rw [if_pos (Or.inr h3)] at hw
          rw [if_pos h3, if_pos h3]
          refine ih _ _ _ _ hw.2 (fun j hjh => ?_)
          rw [hj (h - 1) (by omega)]
          by_cases e : j = h - 1
          · rw [e, upd_eq, upd_eq]
          · rw [upd_ne e, upd_ne e]
            exact hj j hjh
        · rw [if_neg (by omega)] at hw
          rw [if_neg h3, if_neg h3]
          refine ih _ _ _ _ hw.2 (fun j hjh => ?_)
          rw [hj (h - 1) (by omega), hj (h - 2) (by omega)]
          by_cases e : j = h - 2
          · rw [e, upd_eq, upd_eq]
          · rw [upd_ne e, upd_ne e]
            exact hj j (by omega)
theorem nI_leL {a b : Nat} {x y : Int32} (hx : x = nI a) (hy : y = nI b) (ha : a < 2 ^ 31) (hb : b < 2 ^ 31) : x ≤ y ↔ a ≤ b := by
  rw [hx, hy]
  exact nI_leI ha hb
theorem cOperand {v : gV} {a c : Nat} (hc : isPu c) : fX4_operand v (nI (mEnc c)) a = some (mVal (v a) c, v) := by
  rcases hc with h | ⟨h1, h2⟩
  · match c, h with
    | 0, _ => rfl
    | 1, _ => rfl
    | 2, _ => rfl
    | 3, _ => rfl
    | 4, _ => rfl
    | 5, _ => rfl
  · have e : mEnc c = c - 100000 := by
      unfold mEnc
      rw [if_neg (by omega), if_pos h1]
    unfold fX4_operand mVal
    rw [e, if_neg (by rw [nI_leL (x := 10000) (a := 10000) rfl rfl (by decide) (by omega)]; omega), if_neg (by omega)]
theorem cOfTwo {v : gV} {c : Nat} {x y : Int32} (hc : isBi c) : fX4_ofTwo v (nI (mEnc c)) x y = some (mOp c x y, v) := by
  rcases hc with rfl | rfl | rfl | rfl | rfl | rfl | rfl
  · show (if x = 0 then (if y = 0 then some (0, v) else fX4_ofTwo_96 v) else fX4_ofTwo_96 v) = _
    unfold fX4_ofTwo_96 mOp
    simp only [if_true]
    repeat' split
    all_goals rfl
  · show (if x = 0 then some (0, v) else (if y = 0 then some (0, v) else some (1, v))) = _
    unfold mOp
    simp only [show (12 : Nat) = 11 ↔ False by decide, if_false, if_true]
    repeat' split
    all_goals rfl
  · show (if y ≤ x then some ((0 : Int32), v) else some (1, v)) = some (if y ≤ x then 0 else 1, v)
    split <;> rfl
  · show (if x = y then some ((1 : Int32), v) else some (0, v)) = some (if x = y then 1 else 0, v)
    split <;> rfl
  · rfl
  · rfl
  · rfl
theorem mTwo {v : gV} {c : Nat} {x y : Int32} (hc : isBi c) : fX6_two v (nI c) x y = some (mOp c x y, v) := by
  rcases hc with rfl | rfl | rfl | rfl | rfl | rfl | rfl
  · show (if x = 0 then (if y = 0 then some (0, v) else fX6_two_52 v) else fX6_two_52 v) = _
    unfold fX6_two_52 mOp
    simp only [if_true]
    repeat' split
    all_goals rfl
  · show (if x = 0 then some (0, v) else (if y = 0 then some (0, v) else some (1, v))) = _
    unfold mOp
    simp only [show (12 : Nat) = 11 ↔ False by decide, if_false, if_true]
    repeat' split
    all_goals rfl
  · show (if y ≤ x then some ((0 : Int32), v) else some (1, v)) = some (if y ≤ x then 0 else 1, v)
    split <;> rfl
  · show (if x = y then some ((1 : Int32), v) else some (0, v)) = some (if x = y then 1 else 0, v)
    split <;> rfl
  · rfl
  · rfl
  · rfl
theorem mEnc_pu {c : Nat} (hc : isPu c) : mEnc c < 20000 := by
  rcases hc with h | ⟨h1, h2⟩
  · match c, h with
    | 0, _ => decide
    | 1, _ => decide
    | 2, _ => decide
    | 3, _ => decide
    | 4, _ => decide
    | 5, _ => decide
  · unfold mEnc
    rw [if_neg (by omega), if_pos h1]
    omega
theorem mEnc_bi {c : Nat} (hc : isBi c) : 20001 < mEnc c ∧ mEnc c < 20009 := by
  rcases hc with rfl | rfl | rfl | rfl | rfl | rfl | rfl <;> decide
theorem gin_lit {x : Int32} {j n : Nat} (hx : x = nI j) (h : j < n) (hn : n < 2 ^ 31) : gin x n = true := by rw [hx]; exact gin_nI h hn
