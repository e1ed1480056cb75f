theorem fnd_le {m : Nat → Prop} {k i : Nat} (h : i + k = 12) : fnd m k i < 13 := by
  rcases fnd_spec (m := m) k i h with ⟨h1, -⟩ | ⟨-, h2, -⟩ <;> omega
theorem mSgn {V : gV} {c : Nat} (hc : c ≤ 255) : (if nI c = 40 then fX6_next_374 V (nI c) else if nI c = 41 then fX6_next_374 V (nI c) else if nI c = 59 then fX6_next_374 V (nI c) else if nI c = 43 then fX6_next_374 V (nI c) else if nI c = 45 then fX6_next_374 V (nI c) else if nI c = 42 then fX6_next_374 V (nI c) else if nI c = 60 then fX6_next_374 V (nI c) else if nI c = 61 then fX6_next_374 V (nI c) else fX6_next_379 V (nI c) 0) = fX6_next_390 V (if sg c = true then nI c else -1) := by
  have e : ∀ k, k < 256 → (nI c = nI k ↔ c = k) := fun k hk => nI_eq (by omega) (by omega)
  have e40 : nI c = 40 ↔ c = 40 := e 40 (by decide)
  have e41 : nI c = 41 ↔ c = 41 := e 41 (by decide)
  have e59 : nI c = 59 ↔ c = 59 := e 59 (by decide)
  have e43 : nI c = 43 ↔ c = 43 := e 43 (by decide)
  have e45 : nI c = 45 ↔ c = 45 := e 45 (by decide)
  have e42 : nI c = 42 ↔ c = 42 := e 42 (by decide)
  have e60 : nI c = 60 ↔ c = 60 := e 60 (by decide)
  have e61 : nI c = 61 ↔ c = 61 := e 61 (by decide)
  simp only [e40, e41, e59, e43, e45, e42, e60, e61]
  have yes : fX6_next_374 V (nI c) = fX6_next_390 V (nI c) := by
    unfold fX6_next_374 fX6_next_379
    rw [if_neg ne10]
  have no : fX6_next_379 V (nI c) 0 = fX6_next_390 V (-1) := by
    unfold fX6_next_379
    rw [if_pos rfl]
  rw [yes, no]
  unfold sg
  by_cases h : c = 40 ∨ c = 41 ∨ c = 59 ∨ c = 43 ∨ c = 45 ∨ c = 42 ∨ c = 60 ∨ c = 61
  · rw [if_pos (decide_eq_true h)]
    rcases h with h | h | h | h | h | h | h | h <;> subst h <;> rfl
  · rw [if_neg (fun z => h (of_decide_eq_true z)), if_neg (by omega), if_neg (by omega), if_neg (by omega), if_neg (by omega), if_neg (by omega), if_neg (by omega), if_neg (by omega), if_neg (by omega)]
theorem mtok_sg {c : Nat} (h : sg c = true) : mtok c = nI c := by
  have := sg_cases h
  unfold mtok
  rw [if_neg (by omega), if_neg (by omega), if_pos (by omega)]
/-- a step of the reference's reader -/
theorem mStep {u : gV} {T : Nat → Nat} {q p : Nat} (h : MP u T q) (hp : p ≤ q) (h2 : u 0 21 = nI p) : ∃ g, fX6_next u = some ((), up2 u 0 g) ∧ g 21 = nI (nx T q p) ∧ g 22 = nI (bg T q p) ∧ g 23 = mtok (tk T q p) ∧ mvOk T q p (g 24) ∧ ∀ k, k < 21 ∨ 24 < k → g k = u 0 k := by
  have hq := h.2.1
  obtain ⟨hb1, hb2⟩ := bg_le (T := T) hp
  have s := mSkip h (q - p) p 2000 (u 0) (by omega) (by omega) h.1 h2
  rw [up2_self] at s
  have s' : fX6_next u = _ := s
  rw [s', show er bl T q p = bg T q p from rfl]
  unfold mvOk nx tk nm fX6_next_52
  generalize bg T q p = b at *
  have e1 : up1 (up1 (up1 (up2 u 0 (upd (u 0) 21 (nI b))) 0 22 ((up2 u 0 (upd (u 0) 21 (nI b))) 0 21)) 0 23 0) 0 24 0 = up2 u 0 (upd (upd (upd (upd (u 0) 21 (nI b)) 22 (nI b)) 23 0) 24 0) := by
    rw [up2_eq, upd_eq, up1_up2, up1_up2, up1_up2]
  rw [e1]
  have G8 : (upd (upd (upd (upd (u 0) 21 (nI b)) 22 (nI b)) 23 0) 24 0) 8 = nI q := by rw [upd_ne (by decide), upd_ne (by decide), upd_ne (by decide), upd_ne (by decide)]; exact h.1
  have G21 : (upd (upd (upd (upd (u 0) 21 (nI b)) 22 (nI b)) 23 0) 24 0) 21 = nI b := by rw [upd_ne (by decide), upd_ne (by decide), upd_ne (by decide), upd_eq]
  have G22 : (upd (upd (upd (upd (u 0) 21 (nI b)) 22 (nI b)) 23 0) 24 0) 22 = nI b := by rw [upd_ne (by decide), upd_ne (by decide), upd_eq]
  have G23 : (upd (upd (upd (upd (u 0) 21 (nI b)) 22 (nI b)) 23 0) 24 0) 23 = 0 := by rw [upd_ne (by decide), upd_eq]
  have G24 : (upd (upd (upd (upd (u 0) 21 (nI b)) 22 (nI b)) 23 0) 24 0) 24 = 0 := by rw [upd_eq]
  have GK : ∀ k, k < 21 ∨ 24 < k → (upd (upd (upd (upd (u 0) 21 (nI b)) 22 (nI b)) 23 0) 24 0) k = u 0 k := fun k hk => by rw [upd_ne (by omega), upd_ne (by omega), upd_ne (by omega), upd_ne (by omega)]
  generalize upd (upd (upd (upd (u 0) 21 (nI b)) 22 (nI b)) 23 0) 24 0 = g at *
  rw [up2_eq, G21, G8, up2_ne (show 6 ≠ 0 by decide)]
  by_cases c : b < q
  · obtain ⟨hv, hT⟩ := h.2.2.1 b c
    rw [if_neg (nI_neL rfl rfl (show b ≠ q by omega) (by omega) (by omega)), if_pos (gin_nI (by omega) (by decide)), nI_clamp (by omega), hv, mLet hT, gB_some, if_pos c, if_pos c]
    by_cases l : lt (T b) = true
    · obtain ⟨g1, g2, g3, -⟩ := er_spec (P := lt) (T := T) (q := q) (q - b) b (by omega)
      have g4 : b < er lt T q b := by
        rw [er_go c l]
        have := (er_spec (P := lt) (T := T) (q := q) (q - (b + 1)) (b + 1) (by omega)).1
        omega
      rw [if_pos l, if_pos l, if_pos l, if_neg ne10, mLets h (q - b) b 2000 g (by omega) (by omega) G8 G21]
      unfold fX6_next_146 fX6_wordFrom
      have E8 : (upd g 21 (nI (er lt T q b))) 8 = nI q := by rw [upd_ne (by decide)]; exact G8
      have E21 : (upd g 21 (nI (er lt T q b))) 21 = nI (er lt T q b) := by rw [upd_eq]
      have E22 : (upd g 21 (nI (er lt T q b))) 22 = nI b := by rw [upd_ne (by decide)]; exact G22
      have EK : ∀ k, k < 21 ∨ 24 < k → (upd g 21 (nI (er lt T q b))) k = u 0 k := fun k hk => by rw [upd_ne (by omega)]; exact GK k hk
      generalize upd g 21 (nI (er lt T q b)) = y at *
      rw [up2_eq, E22, E21, show (0 : Int32) = nI 0 from rfl, mWordL (MP_g h E8) g4 g2 g3 12 0 2000 (by omega) (by omega), gB_some]
      have hm := fnd_le (m := fun z => mt T b (er lt T q b) (pm z)) (k := 12) (i := 0) (by omega)
      have hw := mW_wI (T := T) (b := b) (e := er lt T q b)
      generalize fnd (fun z => mt T b (er lt T q b) (pm z)) 12 0 = M at *
      have ht : (if wI T b (er lt T q b) < 12 then 300 + wI T b (er lt T q b) else 1) = if M < 12 then 300 + pm M else 1 := by
        rcases hw with ⟨w1, w2⟩ | ⟨w1, w2⟩
        · rw [w1, w2]; rfl
        · rw [w2, if_pos (pm_lt _ w1), if_pos w1]
      rw [ht]
      obtain ⟨Y, Z, a1, a2, a3, a4⟩ := m195 (V := up2 u 0 y) M hm
      rw [a1, up1_up2, up1_up2]
      refine ⟨_, rfl, ?_, ?_, ?_, ⟨fun z => ?_, fun w hw3 z => ?_, fun k hk z => ?_⟩, fun k hk => ?_⟩
      · rw [upd_ne (by decide), upd_ne (by decide)]; exact E21
      · rw [upd_ne (by decide), upd_ne (by decide)]; exact E22
      · rw [upd_ne (by decide), upd_eq]; exact a2
      · split at z <;> omega
      · rw [upd_eq]
        by_cases m12 : M < 12
        · rw [if_pos m12] at z; exact a3 w hw3 m12 z
        · rw [if_neg m12] at z; omega
      · rw [upd_eq]
        by_cases m12 : M < 12
        · rw [if_pos m12] at z; exact a4 k hk m12 z
        · rw [if_neg m12] at z; omega
      · rw [upd_ne (by omega), upd_ne (by omega)]; exact EK k hk
    · rw [if_neg l, if_neg l, if_neg l, if_pos rfl, mDig hT, gB_some]
      by_cases d : dt (T b) = true
      · obtain ⟨g1, g2, g3, -⟩ := er_spec (P := dt) (T := T) (q := q) (q - b) b (by omega)
        rw [if_pos d, if_pos d, if_pos d, if_neg ne10]
        obtain ⟨Z, z1, z2⟩ := mDigs h (q - b) b 0 2000 g (by omega) (by omega) (by omega) G8 G21
        rw [show (0 : Int32) = nI 0 from rfl, z1, Nat.zero_add]
        rw [Nat.zero_add, G24, show (0 : Int32) = nI 0 from rfl, numG_N _ _ _ (fun j a z => g3 j a (by omega))] at z2
        unfold fX6_next_309 fX6_next_320
        by_cases w : er dt T q b - b ≤ 4
        · rw [if_pos (nI_yleL (y := 4) (b := 4) rfl rfl w (by decide)), up1_up2, if_pos w]
          exact ⟨_, rfl, by rw [upd_ne (by decide), upd_eq], by rw [upd_ne (by decide), upd_ne (by decide), upd_ne (by decide)]; exact G22, by rw [upd_eq]; rfl, ⟨fun _ => by rw [upd_ne (by decide), upd_ne (by decide), upd_eq]; exact z2 w, fun j _ z => by omega, fun j _ z => by omega⟩, fun k hk => by rw [upd_ne (by omega), upd_ne (by omega), upd_ne (by omega)]; exact GK k hk⟩
        · rw [if_neg (nI_nleL (y := 4) (b := 4) rfl rfl (by omega) (by omega)), up1_up2, if_neg w]
          exact ⟨_, rfl, by rw [upd_ne (by decide), upd_eq], by rw [upd_ne (by decide), upd_ne (by decide), upd_ne (by decide)]; exact G22, by rw [upd_eq]; rfl, ⟨fun z => by omega, fun j _ z => by omega, fun j _ z => by omega⟩, fun k hk => by rw [upd_ne (by omega), upd_ne (by omega), upd_ne (by omega)]; exact GK k hk⟩
      · rw [if_neg d, if_neg d, if_neg d, if_pos rfl, mSgn hT]
        unfold fX6_next_390
        rw [up1_up2, up2_eq, upd_ne (show 21 ≠ 23 by decide), G21, nI_1, up1_up2]
        by_cases s : sg (T b) = true
        · have sc := sg_cases s
          rw [if_pos s, if_pos s]
          exact ⟨_, rfl, by rw [upd_eq], by rw [upd_ne (by decide), upd_ne (by decide)]; exact G22, by rw [upd_ne (by decide), upd_eq]; exact (mtok_sg s).symm, ⟨fun z => by omega, fun j _ z => by omega, fun j _ z => by omega⟩, fun k hk => by rw [upd_ne (by omega), upd_ne (by omega)]; exact GK k hk⟩
        · rw [if_neg s, if_neg s]
          exact ⟨_, rfl, by rw [upd_eq], by rw [upd_ne (by decide), upd_ne (by decide)]; exact G22, by rw [upd_ne (by decide), upd_eq]; rfl, ⟨fun z => by omega, fun j _ z => by omega, fun j _ z => by omega⟩, fun k hk => by rw [upd_ne (by omega), upd_ne (by omega)]; exact GK k hk⟩
  · obtain rfl : b = q := by omega
    rw [if_pos rfl, if_neg c, if_neg c]
    exact ⟨_, rfl, G21, G22, G23, ⟨fun z => absurd z (by decide), fun j _ z => by omega, fun j _ z => by omega⟩, GK⟩
