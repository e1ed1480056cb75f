/-! the pile of signs, and what comes out of it -/
def rk (a : Nat) : Nat := if a = 0 then 0 else if a = 11 then 1 else if a = 12 then 2 else if a = 13 then 3 else if a ≤ 15 then 4 else if a ≤ 17 then 5 else if a = 18 then 6 else 7
/-- a pile from b on: its top first -/
def stk (f : Nat → Int32) (e : Nat → Nat) (b : Nat) : List Nat → Prop
  | [] => True
  | a :: H => f (b + H.length) = nI (e a) ∧ stk f e b H
def cn : List Nat → Nat
  | [] => 0
  | a :: H => (if a = 0 ∨ a = 13 ∨ a = 19 then 1 else 0) + cn H
def tr : List Nat → Nat
  | [] => 0
  | a :: _ => rk a
def okH : List Nat → Prop
  | [] => True
  | a :: H => a < 20 ∧ okH H
def ge (r : Nat) : List Nat → Prop
  | [] => True
  | a :: H => r ≤ rk a ∧ ge r H
theorem stk_up {f : Nat → Int32} {e : Nat → Nat} {b k : Nat} {x : Int32} : ∀ {H : List Nat}, stk f e b H → b + H.length ≤ k → stk (upd f k x) e b H := by
  intro H
  induction H with
  | nil => intro _ _; exact trivial
  | cons a H ih =>
    intro h hk
    have hk' : b + (H.length + 1) ≤ k := hk
    exact ⟨by rw [upd_ne (by omega)]; exact h.1, ih h.2 (by omega)⟩
theorem stk_cons {f : Nat → Int32} {e : Nat → Nat} {b a : Nat} {H : List Nat} (h : stk f e b H) : stk (upd f (b + H.length) (nI (e a))) e b (a :: H) := ⟨upd_eq, stk_up h (Nat.le_refl _)⟩
theorem stk_app {f : Nat → Int32} {e : Nat → Nat} {b : Nat} : ∀ {A H : List Nat}, stk f e b (A ++ H) → stk f e b H := by
  intro A
  induction A with
  | nil => intro H h; exact h
  | cons a A ih => intro H h; exact ih h.2
theorem cn_app : ∀ {A H : List Nat}, cn (A ++ H) = cn A + cn H := by
  intro A
  induction A with
  | nil => intro H; show cn H = 0 + cn H; omega
  | cons a A ih =>
    intro H
    show _ + cn (A ++ H) = (_ + cn A) + cn H
    rw [ih]
    omega
theorem okH_app : ∀ {A H : List Nat}, okH (A ++ H) ↔ okH A ∧ okH H := by
  intro A
  induction A with
  | nil => intro H; exact ⟨fun h => ⟨trivial, h⟩, fun h => h.2⟩
  | cons a A ih =>
    intro H
    exact ⟨fun h => ⟨⟨h.1, (ih.mp h.2).1⟩, (ih.mp h.2).2⟩, fun h => ⟨h.1.1, ih.mpr ⟨h.1.2, h.2⟩⟩⟩
theorem ge_app {r : Nat} : ∀ {A H : List Nat}, ge r (A ++ H) ↔ ge r A ∧ ge r H := by
  intro A
  induction A with
  | nil => intro H; exact ⟨fun h => ⟨trivial, h⟩, fun h => h.2⟩
  | cons a A ih =>
    intro H
    exact ⟨fun h => ⟨⟨h.1, (ih.mp h.2).1⟩, (ih.mp h.2).2⟩, fun h => ⟨h.1.1, ih.mpr ⟨h.1.2, h.2⟩⟩⟩
theorem ge_mono {r s : Nat} (hr : s ≤ r) : ∀ {A : List Nat}, ge r A → ge s A := by
  intro A
  induction A with
  | nil => intro _; exact trivial
  | cons a A ih => intro h; exact ⟨Nat.le_trans hr h.1, ih h.2⟩
theorem mRank {u : gV} : ∀ a, a < 20 → fX6_rank u (nI a) = some (nI (rk a), u)
  | 0, _ => rfl
  | 1, _ => rfl
  | 2, _ => rfl
  | 3, _ => rfl
  | 4, _ => rfl
  | 5, _ => rfl
  | 6, _ => rfl
  | 7, _ => rfl
  | 8, _ => rfl
  | 9, _ => rfl
  | 10, _ => rfl
  | 11, _ => rfl
  | 12, _ => rfl
  | 13, _ => rfl
  | 14, _ => rfl
  | 15, _ => rfl
  | 16, _ => rfl
  | 17, _ => rfl
  | 18, _ => rfl
  | 19, _ => rfl
  | n + 20, h => absurd h (by omega)
theorem rk_le : ∀ a, rk a ≤ 7 := by
  intro a
  unfold rk
  repeat' split
  all_goals omega
/-- the reference, reading: U before, u now -/
def MS (U u : gV) (t p : Nat) (b k z : Int32) (H ro : List Nat) : Prop :=
  (∀ j, j ≠ 0 → j ≠ 7 → j ≠ 15 → u j = U j) ∧ (∀ j, j < 200 * t → u 7 j = U 7 j) ∧ ((∀ j, (j < 21 ∨ j = 25 ∨ j = 26 ∨ 29 < j) → u 0 j = U 0 j) ∧ u 0 21 = nI p ∧ u 0 22 = b ∧ u 0 23 = k ∧ u 0 24 = z) ∧ (u 0 27 = nI H.length ∧ u 0 28 = nI (cn H) ∧ u 0 29 = nI ro.length) ∧ (stk (u 15) id 0 H ∧ okH H) ∧ stk (u 7) id (200 * t) ro
theorem MS_MP {U u : gV} {t p q : Nat} {b k z : Int32} {H ro : List Nat} {T : Nat → Nat} (h : MS U u t p b k z H ro) (hU : MP U T q) : MP u T q := by
  obtain ⟨h1, h2, ⟨h3, -⟩, -⟩ := h
  refine ⟨by rw [h3 8 (by omega)]; exact hU.1, hU.2.1, ?_, ?_⟩
  · rw [h1 6 (by omega) (by omega) (by omega)]; exact hU.2.2.1
  · rw [h1 14 (by omega) (by omega) (by omega)]; exact hU.2.2.2
theorem mNext {U u : gV} {t p q : Nat} {b k z : Int32} {H ro : List Nat} {T : Nat → Nat} (h : MS U u t p b k z H ro) (hU : MP U T q) (hp : p ≤ q) : ∃ u' z', fX6_next u = some ((), u') ∧ MS U u' t (nx T q p) (nI (bg T q p)) (mtok (tk T q p)) z' H ro ∧ mvOk T q p z' := by
  obtain ⟨g, g1, g2, g3, g4, g5, g6⟩ := mStep (MS_MP h hU) hp h.2.2.1.2.1
  obtain ⟨h1, h2, ⟨h3, -⟩, ⟨h5, h6, h7⟩, h8, h9⟩ := h
  refine ⟨_, g 24, g1, ⟨?_, ?_, ⟨?_, ?_, ?_, ?_, ?_⟩, ⟨?_, ?_, ?_⟩, ⟨?_, h8.2⟩, ?_⟩, g5⟩
  · intro j a0 a7 a15; rw [up2_ne a0]; exact h1 j a0 a7 a15
  · intro j hj; rw [up2_ne (by decide)]; exact h2 j hj
  · intro j hj; rw [up2_eq, g6 j (by omega)]; exact h3 j hj
  · rw [up2_eq]; exact g2
  · rw [up2_eq]; exact g3
  · rw [up2_eq]; exact g4
  · rw [up2_eq]
  · rw [up2_eq, g6 27 (by omega)]; exact h5
  · rw [up2_eq, g6 28 (by omega)]; exact h6
  · rw [up2_eq, g6 29 (by omega)]; exact h7
  · rw [up2_ne (by decide)]; exact h8.1
  · rw [up2_ne (by decide)]; exact h9
theorem mPuts {U u : gV} {t p : Nat} {b k z : Int32} {H ro : List Nat} (h : MS U u t p b k z H ro) (ht : t < 6) (hU : U 0 11 = nI t) (hn : ro.length < 200) (c : Nat) : ∃ u', fX6_puts u (nI c) = some ((), u') ∧ MS U u' t p b k z H (c :: ro) := by
  obtain ⟨h1, h2, ⟨h3, h4, h4b, h4c, h4d⟩, ⟨h5, h6, h7⟩, h8, h9⟩ := h
  unfold fX6_puts
  rw [h3 11 (by omega), hU, h7, nI_200, if_pos (gin_nI (by omega) (by decide)), nI_clamp (by omega), up1_ne (show 0 ≠ 7 by decide), h7, nI_1]
  refine ⟨_, rfl, ?_, ?_, ⟨?_, ?_, ?_, ?_, ?_⟩, ⟨?_, ?_, ?_⟩, ⟨?_, h8.2⟩, ?_⟩
  · intro j a0 a7 a15; rw [up1_ne a0, up1_ne a7]; exact h1 j a0 a7 a15
  · intro j hj; rw [up1_ne (by decide), up1_eq, upd_ne (by omega)]; exact h2 j hj
  · intro j hj; rw [up1_eq, upd_ne (by omega), up1_ne (by decide)]; exact h3 j hj
  · rw [up1_eq, upd_ne (by decide), up1_ne (by decide)]; exact h4
  · rw [up1_eq, upd_ne (by decide), up1_ne (by decide)]; exact h4b
  · rw [up1_eq, upd_ne (by decide), up1_ne (by decide)]; exact h4c
  · rw [up1_eq, upd_ne (by decide), up1_ne (by decide)]; exact h4d
  · rw [up1_eq, upd_ne (by decide), up1_ne (by decide)]; exact h5
  · rw [up1_eq, upd_ne (by decide), up1_ne (by decide)]; exact h6
  · rw [up1_eq']; rfl
  · rw [up1_ne (by decide), up1_ne (by decide)]; exact h8.1
  · rw [up1_ne (by decide), up1_eq]; exact stk_cons (e := id) h9
theorem mHolds {U u : gV} {t p : Nat} {b k z : Int32} {H ro : List Nat} (h : MS U u t p b k z H ro) (hn : H.length < 200) {a : Nat} (ha : a < 20) (hc : ¬ (a = 0 ∨ a = 13 ∨ a = 19)) : ∃ u', fX6_holds u (nI a) = some ((), u') ∧ MS U u' t p b k z (a :: H) ro := by
  obtain ⟨h1, h2, ⟨h3, h4, h4b, h4c, h4d⟩, ⟨h5, h6, h7⟩, h8, h9⟩ := h
  unfold fX6_holds
  rw [h5, if_pos (gin_nI hn (by decide)), nI_clamp (by omega), up1_ne (show 0 ≠ 15 by decide), h5, nI_1]
  refine ⟨_, rfl, ?_, ?_, ⟨?_, ?_, ?_, ?_, ?_⟩, ⟨?_, ?_, ?_⟩, ⟨?_, ha, h8.2⟩, ?_⟩
  · intro j a0 a7 a15; rw [up1_ne a0, up1_ne a15]; exact h1 j a0 a7 a15
  · intro j hj; rw [up1_ne (by decide), up1_ne (by decide)]; exact h2 j hj
  · intro j hj; rw [up1_eq, upd_ne (by omega), up1_ne (by decide)]; exact h3 j hj
  · rw [up1_eq, upd_ne (by decide), up1_ne (by decide)]; exact h4
  · rw [up1_eq, upd_ne (by decide), up1_ne (by decide)]; exact h4b
  · rw [up1_eq, upd_ne (by decide), up1_ne (by decide)]; exact h4c
  · rw [up1_eq, upd_ne (by decide), up1_ne (by decide)]; exact h4d
  · rw [up1_eq']; rfl
  · rw [up1_eq, upd_ne (by decide), up1_ne (by decide), h6]
    show nI (cn H) = nI ((if a = 0 ∨ a = 13 ∨ a = 19 then 1 else 0) + cn H)
    rw [if_neg hc, Nat.zero_add]
  · rw [up1_eq, upd_ne (by decide), up1_ne (by decide)]; exact h7
  · rw [up1_ne (by decide), up1_eq]
    have := stk_cons (e := id) (a := a) h8.1
    rw [Nat.zero_add] at this
    exact this
  · rw [up1_ne (by decide), up1_ne (by decide)]; exact h9
theorem mOpens {U u : gV} {t p : Nat} {b k z : Int32} {H ro : List Nat} (h : MS U u t p b k z H ro) (hn : H.length < 200) {a : Nat} (ha : a = 0 ∨ a = 13 ∨ a = 19) (hc : cn H < 5) : ∃ u', fX6_opensOne u (nI a) = some (1, u') ∧ MS U u' t p b k z (a :: H) ro := by
  obtain ⟨h1, h2, ⟨h3, h4, h4b, h4c, h4d⟩, ⟨h5, h6, h7⟩, h8, h9⟩ := h
  unfold fX6_opensOne fX6_holds
  rw [h6, if_neg (nI_neL (y := 5) (b := 5) rfl rfl (by omega) (by omega) (by decide)), nI_1, up1_eq, upd_ne (show 27 ≠ 28 by decide), h5, if_pos (gin_nI hn (by decide)), nI_clamp (by omega), gB_some, up1_ne (show 0 ≠ 15 by decide), up1_eq (i := 0), upd_ne (show 27 ≠ 28 by decide), h5, nI_1]
  refine ⟨_, rfl, ?_, ?_, ⟨?_, ?_, ?_, ?_, ?_⟩, ⟨?_, ?_, ?_⟩, ⟨?_, by omega, h8.2⟩, ?_⟩
  · intro j a0 a7 a15; rw [up1_ne a0, up1_ne a15, up1_ne a0]; exact h1 j a0 a7 a15
  · intro j hj; rw [up1_ne (by decide), up1_ne (by decide), up1_ne (by decide)]; exact h2 j hj
  · intro j hj; rw [up1_eq, upd_ne (by omega), up1_ne (by decide), up1_eq, upd_ne (by omega)]; exact h3 j hj
  · rw [up1_eq, upd_ne (by decide), up1_ne (by decide), up1_eq, upd_ne (by decide)]; exact h4
  · rw [up1_eq, upd_ne (by decide), up1_ne (by decide), up1_eq, upd_ne (by decide)]; exact h4b
  · rw [up1_eq, upd_ne (by decide), up1_ne (by decide), up1_eq, upd_ne (by decide)]; exact h4c
  · rw [up1_eq, upd_ne (by decide), up1_ne (by decide), up1_eq, upd_ne (by decide)]; exact h4d
  · rw [up1_eq']; rfl
  · rw [up1_eq, upd_ne (by decide), up1_ne (by decide), up1_eq']
    show nI (cn H + 1) = nI ((if a = 0 ∨ a = 13 ∨ a = 19 then 1 else 0) + cn H)
    rw [if_pos ha, Nat.add_comm]
  · rw [up1_eq, upd_ne (by decide), up1_ne (by decide), up1_eq, upd_ne (by decide)]; exact h7
  · rw [up1_ne (by decide), up1_eq, up1_ne (by decide)]
    have := stk_cons (e := id) (a := a) h8.1
    rw [Nat.zero_add] at this
    exact this
  · rw [up1_ne (by decide), up1_ne (by decide), up1_ne (by decide)]; exact h9
theorem mOpens5 {U u : gV} {t p : Nat} {b k z : Int32} {H ro : List Nat} (h : MS U u t p b k z H ro) {x : Int32} (hc : cn H = 5) : fX6_opensOne u x = some (0, u) := by
  unfold fX6_opensOne
  rw [h.2.2.2.1.2.1, hc, if_pos (show nI 5 = 5 from rfl)]
/-- one sign less on the pile -/
theorem mDrop {U u : gV} {t p n : Nat} {b k z : Int32} {a : Nat} {H ro : List Nat} (h : MS U u t p b k z (a :: H) ro) (hn : n = cn H) : MS U (up1 (up1 u 0 27 (nI H.length)) 0 28 (nI n)) t p b k z H ro := by
  obtain ⟨h1, h2, ⟨h3, h4, h4b, h4c, h4d⟩, ⟨h5, h6, h7⟩, h8, h9⟩ := h
  subst hn
  refine ⟨?_, ?_, ⟨?_, ?_, ?_, ?_, ?_⟩, ⟨?_, ?_, ?_⟩, ⟨?_, h8.2.2⟩, ?_⟩
  · intro j a0 a7 a15; rw [up1_ne a0, up1_ne a0]; exact h1 j a0 a7 a15
  · intro j hj; rw [up1_ne (by decide), up1_ne (by decide)]; exact h2 j hj
  · intro j hj; rw [up1_eq, upd_ne (by omega), up1_eq, upd_ne (by omega)]; exact h3 j hj
  · rw [up1_eq, upd_ne (by decide), up1_eq, upd_ne (by decide)]; exact h4
  · rw [up1_eq, upd_ne (by decide), up1_eq, upd_ne (by decide)]; exact h4b
  · rw [up1_eq, upd_ne (by decide), up1_eq, upd_ne (by decide)]; exact h4c
  · rw [up1_eq, upd_ne (by decide), up1_eq, upd_ne (by decide)]; exact h4d
  · rw [up1_eq, upd_ne (by decide), up1_eq']
  · rw [up1_eq']
  · rw [up1_eq, upd_ne (by decide), up1_eq, upd_ne (by decide)]; exact h7
  · rw [up1_ne (by decide), up1_ne (by decide)]; exact h8.1.2
  · rw [up1_ne (by decide), up1_ne (by decide)]; exact h9
theorem mUnw0 {U : gV} {t p r : Nat} {b k z : Int32} {H : List Nat} (ht : t < 6) (hU : U 0 11 = nI t) (hr : 1 ≤ r) (hr7 : r ≤ 7) (hH : tr H < r) : ∀ (A ro : List Nat) (u : gV) (fuel : Nat), A.length < fuel → MS U u t p b k z (A ++ H) ro → ge r A → A.length + ro.length ≤ 200 → A.length + H.length ≤ 200 → ∃ u', fX6_unwinds_0 fuel u (nI r) = some ((), u') ∧ MS U u' t p b k z H (A.reverse ++ ro) := by
  intro A
  induction A with
  | nil =>
    intro ro u fuel hf h _ hro hl
    obtain ⟨n, rfl⟩ : ∃ n, fuel = n + 1 := ⟨fuel - 1, by omega⟩
    rw [fX6_unwinds_0]
    have h5 : u 0 27 = nI H.length := h.2.2.2.1.1
    refine ⟨u, ?_, h⟩
    cases H with
    | nil => rw [h5, if_pos (show nI ([] : List Nat).length ≤ 0 by decide)]
    | cons a H =>
      have e1 : u 15 H.length = nI a := by have := h.2.2.2.2.1.1.1; rw [Nat.zero_add] at this; exact this
      have e2 : a < 20 := h.2.2.2.2.1.2.1
      have hl' : H.length + 1 ≤ 200 := by have : 0 + (H.length + 1) ≤ 200 := hl; omega
      rw [h5, if_neg (show ¬ nI (a :: H).length ≤ 0 from nI_nleL (y := 0) (b := 0) (a := H.length + 1) rfl rfl (by omega) (by omega)), show nI (a :: H).length - 1 = nI H.length from nI_pred _, if_pos (gin_nI (by omega) (by decide)), nI_clamp (by omega), e1, mRank a e2, gB_some]
      have hlt : rk a < r := hH
      rw [if_pos (nI_yltL rfl rfl hlt (by omega))]
  | cons a A ih =>
    intro ro u fuel hf h hg hro hl
    obtain ⟨n, rfl⟩ : ∃ n, fuel = n + 1 := ⟨fuel - 1, by omega⟩
    have hf' : A.length + 1 < n + 1 := hf
    have hro' : A.length + 1 + ro.length ≤ 200 := hro
    have hl' : A.length + 1 + H.length ≤ 200 := hl
    have eL : (A ++ H).length = A.length + H.length := List.length_append
    have h5 : u 0 27 = nI ((A ++ H).length + 1) := h.2.2.2.1.1
    have h6 : u 0 28 = nI (cn (a :: (A ++ H))) := h.2.2.2.1.2.1
    have e1 : u 15 (A ++ H).length = nI a := by have := h.2.2.2.2.1.1.1; rw [Nat.zero_add] at this; exact this
    have e2 : a < 20 := h.2.2.2.2.1.2.1
    have hge : r ≤ rk a := hg.1
    have e3 : (up1 u 0 27 (nI (A ++ H).length)) 15 (A ++ H).length = nI a := by rw [up1_ne (by decide)]; exact e1
    have e4 : (up1 u 0 27 (nI (A ++ H).length)) 0 28 = nI (cn (a :: (A ++ H))) := by rw [up1_eq, upd_ne (by decide)]; exact h6
    have e5 : (up1 u 0 27 (nI (A ++ H).length)) 0 27 = nI (A ++ H).length := by rw [up1_eq']
    rw [fX6_unwinds_0, h5, if_neg (nI_nleL (y := 0) (b := 0) rfl rfl (by omega) (by omega)), nI_pred, if_pos (gin_nI (by omega) (by decide)), nI_clamp (by omega), e1, mRank a e2, gB_some, if_neg (nI_nltL rfl rfl hge (by have := rk_le a; omega)), h5, nI_pred, e5, if_pos (gin_nI (by omega) (by decide)), nI_clamp (by omega), e3, e4]
    unfold fX6_unwinds_62 fX6_unwinds_67
    have fin : ∃ u', gB (fX6_puts (up1 (up1 u 0 27 (nI (A ++ H).length)) 0 28 (nI (cn (A ++ H)))) (nI a)) (fun _ v5 => fX6_unwinds_0 n v5 (nI r)) = some ((), u') ∧ MS U u' t p b k z H ((a :: A).reverse ++ ro) := by
      obtain ⟨w, w1, w2⟩ := mPuts (mDrop (H := A ++ H) h rfl) ht hU (by omega) a
      rw [w1, gB_some]
      obtain ⟨u', x1, x2⟩ := ih (a :: ro) w n (by omega) w2 hg.2 (by show A.length + (ro.length + 1) ≤ 200; omega) (by omega)
      refine ⟨u', x1, ?_⟩
      rw [List.reverse_cons, List.append_assoc]
      exact x2
    by_cases c13 : a = 13
    · rw [if_pos (show nI a = 13 by rw [c13]; rfl)]
      have e : nI (cn (a :: (A ++ H))) - 1 = nI (cn (A ++ H)) := by
        show nI ((if a = 0 ∨ a = 13 ∨ a = 19 then 1 else 0) + cn (A ++ H)) - 1 = _
        rw [if_pos (Or.inr (Or.inl c13)), Nat.add_comm, nI_pred]
      rw [e]
      exact fin
    · rw [if_neg (nI_neL (y := 13) (b := 13) rfl rfl c13 (by omega) (by decide))]
      by_cases c19 : a = 19
      · rw [if_pos (show nI a = 19 by rw [c19]; rfl)]
        have e : nI (cn (a :: (A ++ H))) - 1 = nI (cn (A ++ H)) := by
          show nI ((if a = 0 ∨ a = 13 ∨ a = 19 then 1 else 0) + cn (A ++ H)) - 1 = _
          rw [if_pos (Or.inr (Or.inr c19)), Nat.add_comm, nI_pred]
        rw [e]
        exact fin
      · rw [if_neg (nI_neL (y := 19) (b := 19) rfl rfl c19 (by omega) (by decide))]
        have c0 : a ≠ 0 := fun z => by
          rw [z] at hge
          have : rk 0 = 0 := rfl
          omega
        have e : nI (cn (a :: (A ++ H))) - 0 = nI (cn (A ++ H)) := by
          show nI ((if a = 0 ∨ a = 13 ∨ a = 19 then 1 else 0) + cn (A ++ H)) - 0 = _
          rw [if_neg (by omega), Nat.zero_add, show (0 : Int32) = nI 0 from rfl, pk_sub (Nat.zero_le _), Nat.sub_zero]
        rw [e]
        exact fin
theorem mUnw {U u : gV} {t p r : Nat} {b k z x : Int32} {A H ro : List Nat} (hx : x = nI r) (ht : t < 6) (hU : U 0 11 = nI t) (hr : 1 ≤ r) (hr7 : r ≤ 7) (hH : tr H < r) (h : MS U u t p b k z (A ++ H) ro) (hg : ge r A) (h1 : A.length + ro.length ≤ 200) (h2 : A.length + H.length ≤ 200) : ∃ u', fX6_unwinds u x = some ((), u') ∧ MS U u' t p b k z H (A.reverse ++ ro) := by
  rw [hx]
  exact mUnw0 ht hU hr hr7 hH A ro u 2000 (by omega) h hg h1 h2
