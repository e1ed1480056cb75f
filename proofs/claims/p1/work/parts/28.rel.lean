/-! how the two worlds agree -/
/-- the words of the reference, eight places each -/
def wordsF (j : Nat) : Int32 := ([100, 114, 105, 110, 107, 115, 32, 32, 119, 111, 114, 116, 104, 32, 32, 32, 98, 114, 101, 97, 107, 115, 32, 32, 100, 97, 121, 32, 32, 32, 32, 32, 100, 114, 117, 110, 107, 32, 32, 32, 102, 117, 108, 108, 32, 32, 32, 32, 101, 109, 112, 116, 121, 32, 32, 32, 99, 111, 114, 107, 32, 32, 32, 32, 108, 97, 98, 101, 108, 32, 32, 32, 111, 114, 32, 32, 32, 32, 32, 32, 97, 110, 100, 32, 32, 32, 32, 32, 110, 111, 116, 32, 32, 32, 32, 32] : List Int32).getD j 0
def RelA (v u : gV) (nt t : Nat) : Prop := (v 1 = u 1 ∧ Rw (v 1) ∧ (v 1 6).toInt ≤ 99) ∧ (v 9 = u 2 ∧ v 10 = u 3 ∧ v 11 = u 4 ∧ v 12 = u 5) ∧ u 0 6 = -1 ∧ (v 0 8 = nI nt ∧ v 0 9 = nI t ∧ u 0 11 = nI nt) ∧ Z7 (v 2) ∧ ∀ d, d < 7 → Z7 (v (20 + d))
def RelT (v u : gV) : Prop := (∃ q, q ≤ 160 ∧ v 5 1 = nI q ∧ u 0 8 = nI q ∧ ∀ i, i < q → v 13 i = u 6 i ∧ 0 ≤ (v 13 i).toInt ∧ (v 13 i).toInt ≤ 255) ∧ ∀ j, j < 96 → u 14 j = wordsF j
def RelI (v u : gV) (n nt : Nat) : Prop := Z7 (v 17) ∧ v 8 5 = u 0 13 ∧ (v 8 5 = 0 ∨ (v 8 5 = 1 ∧ ∃ ni ti, ni ≤ n ∧ ti < nt ∧ (v 8 3 = nI ni ∧ u 0 14 = nI ni) ∧ (v 8 4 = nI ti ∧ u 0 15 = nI ti) ∧ (Rw (v 17) ∧ (v 17 6).toInt ≤ 99) ∧ (∀ k, k < 7 → u 9 k = v 17 k) ∧ (∀ k, k < 5 → u 9 (7 + k) = v 18 k ∧ u 9 (12 + k) = v 19 k) ∧ RI (v 18) (v 10) (v 11) (v 19) ni))
def RelS (v u : gV) : Prop := ∀ s, s < 4 → v 15 s = u 10 s ∧ (v 15 s = -1 ∨ (0 ≤ (v 15 s).toInt ∧ (v 15 s).toInt ≤ 2)) ∧ ∃ z, z ≤ 40 ∧ v 16 s = nI z ∧ u 11 s = nI z ∧ (v 15 s = -1 → z = 0) ∧ ∀ i, i < z → v (27 + s) i = u 12 (40 * s + i)
def Rel (v u : gV) (n nt t : Nat) (tc tb : Nat → Nat → Nat) : Prop := cBase v n nt tc tb ∧ mBase u n nt t tc tb ∧ RelA v u nt t ∧ RelT v u ∧ RelI v u n nt ∧ RelS v u
def RelE (v u : gV) : Prop := ∃ n nt t tc tb, Rel v u n nt t tc tb
/-- a thought leaves all but its own places -/
def sameC (v v' : gV) : Prop := (∀ j, j ≠ 0 → j ≠ 2 → j ≠ 49 → ¬ (20 ≤ j ∧ j ≤ 26) → v' j = v j) ∧ (∀ k, k < 10 → v' 0 k = v 0 k) ∧ Z7 (v' 2) ∧ ∀ d, d < 7 → Z7 (v' (20 + d))
def sameM (u u' : gV) : Prop := (∀ j, j ≠ 0 → j ≠ 16 → j ≠ 17 → j ≠ 18 → u' j = u j) ∧ ∀ k, k < 33 → u' 0 k = u 0 k
theorem sameM_rf {u : gV} : sameM u u := ⟨fun _ _ _ _ _ => rfl, fun _ _ => rfl⟩
theorem sameM_tr {u u1 u2 : gV} (h : sameM u u1) (g : sameM u1 u2) : sameM u u2 := ⟨fun j a b c d => (g.1 j a b c d).trans (h.1 j a b c d), fun k hk => (g.2 k hk).trans (h.2 k hk)⟩
theorem sameC_tr {v v1 v2 : gV} (h : sameC v v1) (g : sameC v1 v2) : sameC v v2 := ⟨fun j a b c d => (g.1 j a b c d).trans (h.1 j a b c d), fun k hk => (g.2.1 k hk).trans (h.2.1 k hk), g.2.2⟩
theorem cBase_same {v v' : gV} {n nt : Nat} {tc tb : Nat → Nat → Nat} (hs : sameC v v') (h : cBase v n nt tc tb) : cBase v' n nt tc tb := by
  obtain ⟨h1, h2, h3, h4⟩ := h
  have e := hs.1
  refine ⟨by rw [e 4 (by omega) (by omega) (by omega) (by omega)]; exact h1, by rw [e 9 (by omega) (by omega) (by omega) (by omega), e 10 (by omega) (by omega) (by omega) (by omega), e 11 (by omega) (by omega) (by omega) (by omega), e 12 (by omega) (by omega) (by omega) (by omega)]; exact h2, h3, fun t ht => ⟨(h4 t ht).1, ?_, ?_⟩⟩
  · intro k hk
    rw [e (43 + t) (by omega) (by omega) (by omega) (by omega)]
    exact (h4 t ht).2.1 k hk
  · intro i hi
    rw [e (37 + t) (by omega) (by omega) (by omega) (by omega)]
    exact (h4 t ht).2.2 i hi
theorem mBase_same {u u' : gV} {n nt t : Nat} {tc tb : Nat → Nat → Nat} (hs : sameM u u') (h : mBase u n nt t tc tb) : mBase u' n nt t tc tb := by
  obtain ⟨h1, h2, ⟨h3, h5, h6⟩, h4⟩ := h
  have e := hs.1
  refine ⟨by rw [hs.2 1 (by omega)]; exact h1, by rw [e 2 (by omega) (by omega) (by omega) (by omega), e 3 (by omega) (by omega) (by omega) (by omega), e 4 (by omega) (by omega) (by omega) (by omega), e 5 (by omega) (by omega) (by omega) (by omega)]; exact h2, ⟨h3, h5, by rw [hs.2 12 (by omega)]; exact h6⟩, fun t ht => ⟨(h4 t ht).1, ?_, ?_⟩⟩
  · intro k hk
    rw [e 8 (by omega) (by omega) (by omega) (by omega)]
    exact (h4 t ht).2.1 k hk
  · intro i hi
    rw [e 7 (by omega) (by omega) (by omega) (by omega)]
    exact (h4 t ht).2.2 i hi
theorem Rel_same {v v' u u' : gV} {n nt t : Nat} {tc tb : Nat → Nat → Nat} (hc : sameC v v') (hm : sameM u u') (h : Rel v u n nt t tc tb) : Rel v' u' n nt t tc tb := by
  obtain ⟨hB, hM, ⟨⟨a1, a2, a3⟩, ⟨a4, a5, a6, a7⟩, a8, ⟨a9, a10, a11⟩, -, -⟩, ⟨⟨q, t1, t2, t3, t4⟩, t5⟩, ⟨i1, i2, i3⟩, hS⟩ := h
  have c := fun j (hj : j ≠ 0 ∧ j ≠ 2 ∧ j ≠ 49 ∧ ¬ (20 ≤ j ∧ j ≤ 26)) => hc.1 j hj.1 hj.2.1 hj.2.2.1 hj.2.2.2
  have m := fun j (hj : j ≠ 0 ∧ j ≠ 16 ∧ j ≠ 17 ∧ j ≠ 18) => hm.1 j hj.1 hj.2.1 hj.2.2.1 hj.2.2.2
  have c0 := hc.2.1
  have m0 := hm.2
  refine ⟨cBase_same hc hB, mBase_same hm hM, ⟨⟨?_, ?_, ?_⟩, ⟨?_, ?_, ?_, ?_⟩, ?_, ⟨?_, ?_, ?_⟩, hc.2.2.1, hc.2.2.2⟩, ⟨⟨q, t1, ?_, ?_, ?_⟩, ?_⟩, ⟨?_, ?_, ?_⟩, ?_⟩
  · rw [c 1 (by omega), m 1 (by omega)]; exact a1
  · rw [c 1 (by omega)]; exact a2
  · rw [c 1 (by omega)]; exact a3
  · rw [c 9 (by omega), m 2 (by omega)]; exact a4
  · rw [c 10 (by omega), m 3 (by omega)]; exact a5
  · rw [c 11 (by omega), m 4 (by omega)]; exact a6
  · rw [c 12 (by omega), m 5 (by omega)]; exact a7
  · rw [m0 6 (by omega)]; exact a8
  · rw [c0 8 (by omega)]; exact a9
  · rw [c0 9 (by omega)]; exact a10
  · rw [m0 11 (by omega)]; exact a11
  · rw [c 5 (by omega)]; exact t2
  · rw [m0 8 (by omega)]; exact t3
  · rw [c 13 (by omega), m 6 (by omega)]; exact t4
  · rw [m 14 (by omega)]; exact t5
  · rw [c 17 (by omega)]; exact i1
  · rw [c 8 (by omega), m0 13 (by omega)]; exact i2
  · rw [c 8 (by omega), c 17 (by omega), c 18 (by omega), c 19 (by omega), c 10 (by omega), c 11 (by omega), m 9 (by omega), m0 14 (by omega), m0 15 (by omega)]; exact i3
  · intro s hs
    rw [c 15 (by omega), c 16 (by omega), c (27 + s) (by omega), m 10 (by omega), m 11 (by omega), m 12 (by omega)]
    exact hS s hs
/-- how one stands greedily in the end -/
def mEnd (K S T M : Nat → Int32) (w : Int32) (n : Nat) (L : (Nat → Int32) → Int32) (s : Nat → Int32) : Nat → Int32 := (mRun K S T M w n L 200 s).2
theorem cEndWith {v : gV} {n nt t : Nat} {tc tb : Nat → Nat → Nat} (hB : cBase v n nt tc tb) (ht : t < nt) (hl : v 0 9 = nI t) (h1 : Z7 (v 1)) (h2 : Z7 (v 2)) (x : Int32) : ∃ f, fX5_endWith v x = some ((), up2 (up2 v 49 f) 2 (mEnd (v 9) (v 10) (v 11) (v 12) (-1) n (LW (tc t) (tb t) 0) (upd (v 1) 0 x))) := by
  unfold fX5_endWith
  rw [cStart h1 h2, gB_some, up1_up2, up2_ne (by decide), hl]
  have hB2 : cBase (up2 v 2 (upd (v 1) 0 x)) n nt tc tb := cBase_up2 hB (Or.inr (Or.inr (Or.inl rfl)))
  obtain ⟨f, hf⟩ := cRun (w := -1) hB2 (a := 2) (N := 200) (Or.inr (Or.inl rfl)) ht (by decide)
  refine ⟨f, ?_⟩
  rw [show (200 : Int32) = nI 200 from rfl, hf, gB_some, up2_ne (by decide), up2_ne (by decide), up2_ne (by decide), up2_ne (by decide), up2_eq, up2_comm (show 2 ≠ 49 by decide), up2_up2]
  rfl
theorem Z7_upd {s : Nat → Int32} {k : Nat} {x : Int32} (h : Z7 s) (hk : k < 7) : Z7 (upd s k x) := fun j hj => by
  rw [upd_ne (by omega)]
  exact h j hj
theorem Rw_0 {s : Nat → Int32} {x : Int32} (h : Rw s) (h0 : 0 ≤ x.toInt) (h1 : x.toInt ≤ 999) : Rw (upd s 0 x) := by
  obtain ⟨a, b, c, d, z⟩ := h
  refine ⟨fun k hk => ?_, b, c, d, Z7_upd z (by decide)⟩
  by_cases e : k = 0
  · rw [e, upd_eq]
    exact ⟨h0, h1⟩
  · rw [upd_ne e]
    exact a k hk
def mBare (s : Nat → Int32) : Prop := s 0 = 0 ∧ s 1 = 0 ∧ s 4 = 0
theorem mDrunkWith {u : gV} {n nt t : Nat} {tc tb : Nat → Nat → Nat} (hB : mBase u n nt t tc tb) (hs : Rw (u 1)) {x : Int32} (h0 : 0 ≤ x.toInt) (h1 : x.toInt ≤ 999) : ∃ u', fX6_drunkWith u x = some (mEnd (u 2) (u 3) (u 4) (u 5) (u 0 6) n (LW (tc t) (tb t) 0) (upd (u 1) 0 x) 5, u') ∧ sameM u u' ∧ u' 0 35 = mEnd (u 2) (u 3) (u 4) (u 5) (u 0 6) n (LW (tc t) (tb t) 0) (upd (u 1) 0 x) 1 ∧ ((mBare (mEnd (u 2) (u 3) (u 4) (u 5) (u 0 6) n (LW (tc t) (tb t) 0) (upd (u 1) 0 x)) ∧ u' 0 36 = 1) ∨ (¬ mBare (mEnd (u 2) (u 3) (u 4) (u 5) (u 0 6) n (LW (tc t) (tb t) 0) (upd (u 1) 0 x)) ∧ u' 0 36 = 0)) := by
  have hk := mKeeps (u := u) (d := 0) (by decide)
  have hs2 : Rw (upd (u 1) 0 x) := Rw_0 hs h0 h1
  have hB2 : mBase (up2 (up2 u 18 (kF 0 (u 1) (u 18) 0)) 1 (upd (u 1) 0 x)) n nt t tc tb := mBase_up2 (mBase_up2 hB (Or.inr (by decide))) (Or.inl rfl)
  obtain ⟨g, f, hg⟩ := mGoesOn (N := 200) hB2 (by rw [up2_eq]; exact hs2) (by decide)
  have hrw := Rw_run hB.2.1 (w := u 0 6) (L := LW (tc t) (tb t) 0) (fun s => LW_rng _ _ s) 200 _ hs2
  simp only [up2_eq, up2_ne (show (2 : Nat) ≠ 1 by decide), up2_ne (show (3 : Nat) ≠ 1 by decide), up2_ne (show (4 : Nat) ≠ 1 by decide), up2_ne (show (5 : Nat) ≠ 1 by decide), up2_ne (show (0 : Nat) ≠ 1 by decide), up2_ne (show (2 : Nat) ≠ 18 by decide), up2_ne (show (3 : Nat) ≠ 18 by decide), up2_ne (show (4 : Nat) ≠ 18 by decide), up2_ne (show (5 : Nat) ≠ 18 by decide), up2_ne (show (0 : Nat) ≠ 18 by decide)] at hg
  change Rw (mEnd (u 2) (u 3) (u 4) (u 5) (u 0 6) n (LW (tc t) (tb t) 0) (upd (u 1) 0 x)) at hrw
  change fX6_goesOn _ (nI 200) = some (_, up3 _ g f (mEnd (u 2) (u 3) (u 4) (u 5) (u 0 6) n (LW (tc t) (tb t) 0) (upd (u 1) 0 x))) at hg
  generalize mEnd (u 2) (u 3) (u 4) (u 5) (u 0 6) n (LW (tc t) (tb t) 0) (upd (u 1) 0 x) = E at hg hrw ⊢
  unfold fX6_drunkWith
  rw [show (0 : Int32) = nI 0 from rfl, hk, gB_some, up1_def (i := 1), up2_ne (show (1 : Nat) ≠ 18 by decide), show (nI 0 : Int32) = 0 from rfl, show (200 : Int32) = nI 200 from rfl, hg, gB_some]
  generalize hU : up3 (up2 (up2 u 18 (kF 0 (u 1) (u 18) 0)) 1 (upd (u 1) 0 x)) g f E = U
  have U1 : U 1 = E := by rw [← hU, up3_1]
  have U18 : U 18 = kF 0 (u 1) (u 18) 0 := by rw [← hU, up3_ne (by decide), up2_ne (by decide), up2_eq]
  have U0 : U 0 = u 0 := by rw [← hU, up3_ne (by decide), up2_ne (by decide), up2_ne (by decide)]
  have UJ : ∀ j, j ≠ 0 → j ≠ 1 → j ≠ 16 → j ≠ 17 → j ≠ 18 → U j = u j := fun j a0 a1 a2 a3 a4 => by
    rw [← hU, up3_ne ⟨a1, a2, a3⟩, up2_ne a1, up2_ne a4]
  simp only [up1_ne (show (1 : Nat) ≠ 0 by decide), U1]
  have fin : ∀ s1 : Int32, s1 = 0 ∨ s1 = 1 → fX6_drunkWith_70 (up1 U 0 35 (E 1)) (E 5) s1 = some (E 5, up2 (up1 (up1 U 0 35 (E 1)) 0 36 s1) 1 (u 1)) := by
    intro s1 h
    unfold fX6_drunkWith_70
    rw [if_pos h, show (0 : Int32) = nI 0 from rfl, mLays (d := 0) (s0 := u 1) (by decide) (fun k hk => by rw [up1_ne (by decide), up1_ne (by decide), U18]; exact kF_at hk) (Rw_Z7 hs) (by rw [up1_ne (by decide), up1_ne (by decide), U1]; exact Rw_Z7 hrw), gB_some]
  have same : ∀ s1 : Int32, sameM u (up2 (up1 (up1 U 0 35 (E 1)) 0 36 s1) 1 (u 1)) ∧ (up2 (up1 (up1 U 0 35 (E 1)) 0 36 s1) 1 (u 1)) 0 35 = E 1 ∧ (up2 (up1 (up1 U 0 35 (E 1)) 0 36 s1) 1 (u 1)) 0 36 = s1 := by
    intro s1
    refine ⟨⟨fun j a0 a2 a3 a4 => ?_, fun k hk => ?_⟩, ?_, ?_⟩
    · by_cases e : j = 1
      · rw [e, up2_eq]
      · rw [up2_ne e, up1_ne a0, up1_ne a0, UJ j a0 e a2 a3 a4]
    · rw [up2_ne (by decide), up1_eq, upd_ne (by omega), up1_eq, upd_ne (by omega), U0]
    · rw [up2_ne (by decide), up1_eq, upd_ne (by omega), up1_eq, upd_eq]
    · rw [up2_ne (by decide), up1_eq, upd_eq]
  unfold fX6_drunkWith_69
  unfold mBare
  by_cases e0 : E 0 = 0
  · by_cases e1 : E 1 = 0
    · by_cases e4 : E 4 = 0
      · rw [if_pos e0, if_pos e1, if_pos e4, fin 1 (Or.inr rfl)]
        exact ⟨_, rfl, (same 1).1, (same 1).2.1, Or.inl ⟨⟨e0, e1, e4⟩, (same 1).2.2⟩⟩
      · rw [if_pos e0, if_pos e1, if_neg e4, fin 0 (Or.inl rfl)]
        exact ⟨_, rfl, (same 0).1, (same 0).2.1, Or.inr ⟨fun z => e4 z.2.2, (same 0).2.2⟩⟩
    · rw [if_pos e0, if_neg e1, fin 0 (Or.inl rfl)]
      exact ⟨_, rfl, (same 0).1, (same 0).2.1, Or.inr ⟨fun z => e1 z.2.1, (same 0).2.2⟩⟩
  · rw [if_neg e0, fin 0 (Or.inl rfl)]
    exact ⟨_, rfl, (same 0).1, (same 0).2.1, Or.inr ⟨fun z => e0 z.1, (same 0).2.2⟩⟩
