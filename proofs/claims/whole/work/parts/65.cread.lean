/-! the two readers side by side -/
def AM (V U : gV) (T : Nat → Nat) (q t : Nat) : Prop := TP V T q ∧ MP U T q ∧ U 0 11 = nI t ∧ t < 6
def CX0 (V v : gV) (t : Nat) : Prop := (∀ j, j ≠ 5 → j ≠ 31 + t → j ≠ 37 + t → v j = V j) ∧ v 5 1 = V 5 1 ∧ v 5 6 = nI (t + 1)
def CS (V v : gV) (T : Nat → Nat) (q t p : Nat) (ro : List Nat) : Prop := CX0 V v t ∧ (v 5 2 = nI (nx T q p) ∧ v 5 3 = nI (bg T q p) ∧ v 5 4 = nI (tk T q p) ∧ (tk T q p = 2 → v 5 5 = nI (nm T q p))) ∧ v (31 + t) 3 = nI ro.length ∧ stk (v (37 + t)) mEnc 0 ro
def CF (V v : gV) (t b : Nat) : Prop := CX0 V v t ∧ v 5 3 = nI b ∧ ∃ s, (s ≤ 160 ∧ b ≤ 160) ∧ v (31 + t) 3 = nI s
theorem CS_TP {V v : gV} {T : Nat → Nat} {q t : Nat} (h : CX0 V v t) (hV : TP V T q) (ht : t < 6) : TP v T q := by
  refine ⟨by rw [h.2.1]; exact hV.1, hV.2.1, ?_⟩
  rw [h.1 13 (by decide) (by omega) (by omega)]
  exact hV.2.2
theorem CS_CF {V v : gV} {T : Nat → Nat} {q t p : Nat} {ro : List Nat} (h : CS V v T q t p ro) (hr : ro.length ≤ 160 ∧ bg T q p ≤ 160) : CF V v t (bg T q p) := ⟨h.1, h.2.1.2.1, _, hr, h.2.2.1⟩
theorem cNext {V v : gV} {T : Nat → Nat} {q t p : Nat} {ro : List Nat} (h : CS V v T q t p ro) (hV : TP V T q) (ht : t < 6) (hp : p ≤ q) : ∃ v', fX3_step v = some ((), v') ∧ CS V v' T q t (nx T q p) ro := by
  obtain ⟨hC, ⟨h2, h3, h4, h5⟩, h6, h7⟩ := h
  have hn := nx_le (T := T) hp
  obtain ⟨g, g1, g2, g3, g4, g5, g6⟩ := cStep (CS_TP hC hV ht) hn.2.1 h2
  obtain ⟨c1, c2, c3⟩ := hC
  refine ⟨_, g1, ⟨?_, ?_, ?_⟩, ⟨?_, ?_, ?_, ?_⟩, ?_, ?_⟩
  · intro j a0 a1 a2; rw [up2_ne a0]; exact c1 j a0 a1 a2
  · rw [up2_eq, g6 1 (by omega)]; exact c2
  · rw [up2_eq, g6 6 (by omega)]; exact c3
  · rw [up2_eq]; exact g2
  · rw [up2_eq]; exact g3
  · rw [up2_eq]; exact g4
  · rw [up2_eq]; exact g5
  · rw [up2_ne (by omega)]; exact h6
  · rw [up2_ne (by omega)]; exact h7
theorem nI_t1 {t : Nat} (ht : t < 6) : gin (nI (t + 1) - 1) 6 = true ∧ (nI (t + 1) - 1).toNatClampNeg = t := by
  rw [nI_pred]
  exact ⟨gin_nI ht (by decide), nI_clamp (by omega)⟩
theorem cEmit1 {v : gV} {t s : Nat} {x : Int32} (ht : t < 6) (h6 : v 5 6 = nI (t + 1)) (hs : v (31 + t) 3 = nI s) (hl : s ≤ 160) : ∃ v', fX3_emit v x = some ((), v') ∧ ((s < 160 ∧ v' = up1 (up1 v (37 + t) s x) (31 + t) 3 (nI (s + 1))) ∨ (s = 160 ∧ v' = v)) := by
  unfold fX3_emit gTx
  obtain ⟨e1, e2⟩ := nI_t1 ht
  rw [h6, if_pos e1, if_pos e1, e2]
  unfold fX4_put
  dsimp only
  rw [hs, if_neg (nI_pos (by omega))]
  by_cases c : s < 160
  · rw [if_neg (nI_nleL (x := 160) (a := 160) rfl rfl c (by decide)), if_pos (gin_nI c (by decide)), nI_clamp (by omega), up1_ne (show 31 + t ≠ 37 + t by omega), hs, nI_1, gB_some]
    exact ⟨_, rfl, Or.inl ⟨c, rfl⟩⟩
  · rw [if_pos (nI_yleL (x := 160) (a := 160) rfl rfl (by omega) (by omega)), gB_some]
    exact ⟨_, rfl, Or.inr ⟨by omega, rfl⟩⟩
theorem cEmit {V v : gV} {T : Nat → Nat} {q t p c : Nat} {ro : List Nat} {x : Int32} (h : CS V v T q t p ro) (ht : t < 6) (hr : ro.length < 160) (hx : x = nI (mEnc c)) : ∃ v', fX3_emit v x = some ((), v') ∧ CS V v' T q t p (c :: ro) := by
  obtain ⟨⟨c1, c2, c3⟩, ⟨h2, h3, h4, h5⟩, h6, h7⟩ := h
  obtain ⟨w, w1, w2⟩ := cEmit1 (x := x) ht c3 h6 (by omega)
  rcases w2 with ⟨-, rfl⟩ | ⟨a, -⟩
  · have e5 : up1 (up1 v (37 + t) ro.length x) (31 + t) 3 (nI (ro.length + 1)) 5 = v 5 := by rw [up1_ne (by omega), up1_ne (by omega)]
    refine ⟨_, w1, ⟨?_, ?_, ?_⟩, ⟨?_, ?_, ?_, ?_⟩, ?_, ?_⟩
    · intro j a0 a1 a2; rw [up1_ne a1, up1_ne a2]; exact c1 j a0 a1 a2
    · rw [e5]; exact c2
    · rw [e5]; exact c3
    · rw [e5]; exact h2
    · rw [e5]; exact h3
    · rw [e5]; exact h4
    · rw [e5]; exact h5
    · rw [up1_eq']; rfl
    · rw [up1_ne (by omega), up1_eq, hx]
      have := stk_cons (e := mEnc) (a := c) h7
      rw [Nat.zero_add] at this
      exact this
  · omega
theorem cEmitF {V v : gV} {t b : Nat} {x : Int32} (h : CF V v t b) (ht : t < 6) : ∃ v', fX3_emit v x = some ((), v') ∧ CF V v' t b := by
  obtain ⟨⟨c1, c2, c3⟩, h3, s, hs, h6⟩ := h
  obtain ⟨w, w1, w2⟩ := cEmit1 (x := x) ht c3 h6 hs.1
  rcases w2 with ⟨a, rfl⟩ | ⟨-, rfl⟩
  · have e5 : up1 (up1 v (37 + t) s x) (31 + t) 3 (nI (s + 1)) 5 = v 5 := by rw [up1_ne (by omega), up1_ne (by omega)]
    refine ⟨_, w1, ⟨?_, ?_, ?_⟩, ?_, s + 1, ⟨a, hs.2⟩, ?_⟩
    · intro j a0 a1 a2; rw [up1_ne a1, up1_ne a2]; exact c1 j a0 a1 a2
    · rw [e5]; exact c2
    · rw [e5]; exact c3
    · rw [e5]; exact h3
    · rw [up1_eq']
  · exact ⟨_, w1, ⟨c1, c2, c3⟩, h3, s, hs, h6⟩
/-! how high a pile of numbers the codes make, last code first -/
def sT (c h : Nat) : Option Nat := if c < 6 ∨ 100000 ≤ c then (if h < 40 then some (h + 1) else none) else if c = 13 ∨ c = 19 then (if 1 ≤ h then some h else none) else (if 2 ≤ h then some (h - 1) else none)
def hR : List Nat → Nat → Option Nat
  | [], h => some h
  | c :: r, h => (hR r h).bind (sT c)
theorem hR_app : ∀ {A B : List Nat} {h : Nat}, hR (A ++ B) h = (hR B h).bind (hR A) := by
  intro A
  induction A with
  | nil =>
    intro B h
    show hR B h = (hR B h).bind (fun x => some x)
    cases hR B h <;> rfl
  | cons a A ih =>
    intro B h
    show (hR (A ++ B) h).bind (sT a) = _
    rw [ih]
    cases hR B h <;> rfl
theorem sT_bi {c h : Nat} (hc : isBi c) : sT c (h + 2) = some (h + 1) := by
  unfold sT
  unfold isBi at hc
  rw [if_neg (by omega), if_neg (by omega), if_pos (by omega)]
  rfl
theorem sT_un {c h : Nat} (hc : c = 13 ∨ c = 19) : sT c (h + 1) = some (h + 1) := by
  unfold sT
  rw [if_neg (by omega), if_pos hc, if_pos (by omega)]
theorem sT_pu {c h : Nat} (hc : isPu c) (hh : h < 40) : sT c h = some (h + 1) := by
  unfold sT
  unfold isPu at hc
  rw [if_pos (by omega), if_pos hh]
def coL : List Nat → Prop
  | [] => True
  | c :: r => isCo c ∧ coL r
theorem coL_app : ∀ {A B : List Nat}, coL A → coL B → coL (A ++ B) := by
  intro A
  induction A with
  | nil => intro B _ h; exact h
  | cons a A ih => intro B h g; exact ⟨h.1, ih h.2 g⟩
/-! the levels of the language: 0 or, 1 and, 2 not and one against another, 3 sums, 4 products, 5 one -/
def rt (g : Nat) : Nat := ([1, 2, 3, 5, 6, 7] : List Nat).getD g 0
def hb (g : Nat) : Nat := ([1, 2, 4, 5, 6, 7] : List Nat).getD g 0
def dp (g o : Nat) : Nat := 5 * (5 - o) + (5 - g) + 1
def blk (H : List Nat) : Prop := ∃ A a B, H = A ++ (a :: B) ∧ ge 5 A ∧ rk a = 4
theorem blk_app {H B : List Nat} (h : blk H) : blk (H ++ B) := by
  obtain ⟨A, a, C, rfl, h1, h2⟩ := h
  exact ⟨A, a, C ++ B, by rw [List.append_assoc]; rfl, h1, h2⟩
def PT (g s : Nat) (H1 : List Nat) : Prop := (g ≤ 4 → rk s ≠ 6) ∧ (g ≤ 3 → rk s ≠ 5) ∧ (g ≤ 2 → rk s = 4 → blk H1) ∧ (g ≤ 1 → rk s ≠ 2) ∧ (g = 0 → rk s ≠ 1)
/-- both have read one of level g from p on -/
def OK (V U : gV) (T : Nat → Nat) (q t g o p : Nat) (H ro : List Nat) (v' : gV) (LM : Option (Int32 × gV)) (P : Nat → List Nat → Prop) : Prop :=
  ∃ (p' f' : Nat) (rc H1 rc1 : List Nat) (u' : gV) (b k z mn : Int32), (LM = fX6_eRead_14 f' u' 0 mn ∧ 1000 ≤ f' + p') ∧ CS V v' T q t p' (rc ++ ro) ∧ MS U u' t p' b k z (H1 ++ H) (rc1 ++ ro) ∧ rc = H1.reverse ++ rc1 ∧ (p < p' ∧ p' ≤ q ∧ p + rc.length ≤ p') ∧ ge (rt g) H1 ∧ coL rc ∧ (∀ h, h + dp g o ≤ 40 → hR rc h = some (h + 1)) ∧ P (sgn (tk T q p')) H1
def FL (V U : gV) (T : Nat → Nat) (q t : Nat) (v' : gV) (LM : Option (Int32 × gV)) : Prop := ∃ p', CF V v' t (bg T q p') ∧ ∃ u', LM = some (0, u') ∧ MF U u' t (bg T q p')
def J (V U : gV) (T : Nat → Nat) (q t : Nat) (F : gV → Int32 → Option (Int32 × gV)) (g o : Nat) : Prop :=
  ∀ (v u : gV) (f p : Nat) (H ro : List Nat) (b k z mn : Int32), CS V v T q t p ro → MS U u t p b k z H ro → p ≤ q → 1000 ≤ f + p → H.length + ro.length ≤ p → cn H = o → tr H < hb g → (g ≤ 2 → mn = 1) → (3 ≤ g → mn = 0 ∨ tk T q p ≠ 305) → ∃ y v', F v (nI o) = some (y, v') ∧ ((y = 1 ∧ OK V U T q t g o p H ro v' (fX6_eRead_14 f u 1 mn) (PT g)) ∨ (y = 0 ∧ FL V U T q t v' (fX6_eRead_14 f u 1 mn)))
/-- one, with signs ahead of it on the pile -/
def J5 (V U : gV) (T : Nat → Nat) (q t : Nat) (F : gV → Int32 → Option (Int32 × gV)) (o : Nat) : Prop :=
  ∀ (v u : gV) (f p : Nat) (R H ro : List Nat) (b k z mn : Int32), CS V v T q t p ro → MS U u t p b k z (R ++ H) ro → p ≤ q → 1000 ≤ f + p → R.length + H.length + ro.length ≤ p → cn (R ++ H) = o → ge 7 R → tr H < 7 → (mn = 0 ∨ tk T q p ≠ 305) → ∃ y v', F v (nI o) = some (y, v') ∧ ((y = 1 ∧ ∃ (p' f' : Nat) (rc : List Nat) (u' : gV) (b k z mn' : Int32), (fX6_eRead_14 f u 1 mn = fX6_eRead_14 f' u' 0 mn' ∧ 1000 ≤ f' + p') ∧ CS V v' T q t p' (rc ++ ro) ∧ MS U u' t p' b k z H (R.reverse ++ (rc ++ ro)) ∧ (p < p' ∧ p' ≤ q ∧ p + rc.length ≤ p') ∧ coL rc ∧ ∀ h, h + dp 5 o ≤ 40 → hR rc h = some (h + 1)) ∨ (y = 0 ∧ FL V U T q t v' (fX6_eRead_14 f u 1 mn)))
theorem J5_J {V U : gV} {T : Nat → Nat} {q t o : Nat} {F : gV → Int32 → Option (Int32 × gV)} (h : J5 V U T q t F o) : J V U T q t F 5 o := by
  intro v u f p H ro b k z mn hC hM hp hf hl hc ht _ hm
  obtain ⟨y, v', e, r⟩ := h v u f p [] H ro b k z mn hC hM hp hf (by show 0 + H.length + ro.length ≤ p; omega) hc trivial ht (hm (by decide))
  refine ⟨y, v', e, ?_⟩
  rcases r with ⟨y1, p', f', rc, u', b', k', z', mn', a1, a2, a3, a4, a5, a6⟩ | r
  · exact Or.inl ⟨y1, p', f', rc, [], rc, u', b', k', z', mn', a1, a2, a3, rfl, a4, trivial, a5, a6, fun z => absurd z (by decide), fun z => absurd z (by decide), fun z => absurd z (by decide), fun z => absurd z (by decide), fun z => absurd z (by decide)⟩
  · exact Or.inr r
