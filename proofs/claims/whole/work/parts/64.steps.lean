/-! the steps of the reference's reader, token by token -/
def tkL : List Nat := [0, 1, 2, 40, 41, 59, 43, 45, 42, 60, 61, 300, 301, 302, 303, 304, 305, 306, 307, 308, 309, 310, 311]
theorem tk_in (T : Nat → Nat) (q p : Nat) : tk T q p ∈ tkL := by
  rcases tk_cases T q p with h | h | h | (h | h | h | h | h | h | h | h) | ⟨w, hw, h⟩
  all_goals rw [h]
  all_goals first | decide | exact (show ∀ w, w < 12 → 300 + w ∈ tkL by decide) w hw
def sgn (t : Nat) : Nat := if t = 303 then 11 else if t = 304 then 12 else if t = 60 then 14 else if t = 61 then 15 else if t = 43 then 16 else if t = 45 then 17 else if t = 42 then 18 else 0
theorem mk_59 : ∀ t ∈ tkL, (mtok t = 59 ↔ t = 59) := by decide
theorem mk_41 : ∀ t ∈ tkL, (mtok t = 41 ↔ t = 41) := by decide
theorem mk_1 : ∀ t ∈ tkL, (mtok t = 1 ↔ t = 2) := by decide
theorem mk_2 : ∀ t ∈ tkL, (mtok t = 2 ↔ 306 ≤ t) := by decide
theorem mk_6 : ∀ t ∈ tkL, (mtok t = 6 ↔ t = 305) := by decide
theorem mk_45 : ∀ t ∈ tkL, (mtok t = 45 ↔ t = 45) := by decide
theorem mk_40 : ∀ t ∈ tkL, (mtok t = 40 ↔ t = 40) := by decide
theorem mk_0 : ∀ t ∈ tkL, (mtok t = 0 ↔ t = 0) := by decide
theorem mk_3 : ∀ t ∈ tkL, (mtok t = 3 ↔ (t = 300 ∨ t = 301 ∨ t = 302)) := by decide
def sI (x : Int32) : Int32 := if x = 4 then 11 else if x = 5 then 12 else if x = 60 then 14 else if x = 61 then 15 else if x = 43 then 16 else if x = 45 then 17 else if x = 42 then 18 else -1
theorem mSignI {u : gV} : fX6_signOf u = some (sI (u 0 23), u) := by
  unfold fX6_signOf sI
  repeat' split
  all_goals rfl
theorem sI_tk : ∀ t ∈ tkL, sI (mtok t) = if sgn t = 0 then -1 else nI (sgn t) := by decide
theorem sgn_bi : ∀ t ∈ tkL, sgn t ≠ 0 → isBi (sgn t) := by
  have h : ∀ t ∈ tkL, sgn t ≠ 0 → (sgn t = 11 ∨ sgn t = 12 ∨ sgn t = 14 ∨ sgn t = 15 ∨ sgn t = 16 ∨ sgn t = 17 ∨ sgn t = 18) := by decide
  exact h
theorem sgn_59 : sgn 59 = 0 := rfl
theorem sgn_41 : sgn 41 = 0 := rfl
/-- it stopped at a fault -/
def MF (U u : gV) (t b : Nat) : Prop := ∃ p k z H ro, MS U u t p (nI b) k z H ro
theorem mBetween {U u : gV} {t p s r : Nat} {b k z : Int32} {A H ro : List Nat} (hs : isBi s) (hr : r = if rk s = 4 then 5 else rk s) (ht : t < 6) (hU : U 0 11 = nI t) (h : MS U u t p b k z (A ++ H) ro) (hg : ge r A) (hH : tr H < r) (h1 : A.length + ro.length ≤ 200) (h2 : A.length + H.length < 200) : (¬ (rk s = 4 ∧ tr H = 4) ∧ ∃ u', fX6_between u (nI s) = some (1, u') ∧ MS U u' t p b k z (s :: H) (A.reverse ++ ro)) ∨ ((rk s = 4 ∧ tr H = 4) ∧ ∃ u', fX6_between u (nI s) = some (0, u') ∧ MS U u' t p b k z H (A.reverse ++ ro)) := by
  have hs20 : s < 20 := by unfold isBi at hs; omega
  have hsn : ¬ (s = 0 ∨ s = 13 ∨ s = 19) := by unfold isBi at hs; omega
  have hr1 : 1 ≤ r ∧ r ≤ 7 := by
    have : ∀ s, isBi s → 1 ≤ (if rk s = 4 then 5 else rk s) ∧ (if rk s = 4 then 5 else rk s) ≤ 7 := by
      intro s h
      rcases h with h | h | h | h | h | h | h <;> subst h <;> decide
    rw [hr]; exact this s hs
  have e1 : fX6_between u (nI s) = fX6_between_17 u (nI s) (nI r) := by
    unfold fX6_between
    rw [mRank s hs20, gB_some]
    by_cases c : rk s = 4
    · rw [if_pos c] at hr
      rw [if_pos (show nI (rk s) = 4 by rw [c]; rfl), hr]
      rfl
    · rw [if_neg c] at hr
      rw [if_neg (nI_neL (y := 4) (b := 4) rfl rfl c (by have := rk_le s; omega) (by decide)), mRank s hs20, gB_some, hr]
  obtain ⟨w, w1, w2⟩ := mUnw rfl ht hU hr1.1 hr1.2 hH h hg h1 (by omega)
  rw [e1]
  unfold fX6_between_17
  rw [w1, gB_some, mRank s hs20, gB_some]
  obtain ⟨x, x1, x2⟩ := mHolds w2 (by omega) hs20 hsn
  have fin : fX6_between_55 w (nI s) = some (1, x) := by
    unfold fX6_between_55
    rw [x1, gB_some]
  have h5 : w 0 27 = nI H.length := w2.2.2.2.1.1
  by_cases c : rk s = 4
  · rw [if_pos (show nI (rk s) = 4 by rw [c]; rfl), h5]
    cases H with
    | nil =>
      rw [if_pos (show nI ([] : List Nat).length ≤ 0 by decide), fin]
      exact Or.inl ⟨fun q => absurd q.2 (show ¬ (0 : Nat) = 4 by decide), x, rfl, x2⟩
    | cons a H =>
      have ea : w 15 H.length = nI a := by have := w2.2.2.2.2.1.1.1; rw [Nat.zero_add] at this; exact this
      have ha : a < 20 := w2.2.2.2.2.1.2.1
      have hl : H.length + 1 < 200 := by have : A.length + (H.length + 1) < 200 := h2; omega
      rw [if_neg (show ¬ nI (a :: H).length ≤ 0 from nI_nleL (y := 0) (b := 0) (a := H.length + 1) rfl rfl (by omega) (by omega)), show nI (a :: H).length - 1 = nI H.length from nI_pred _, if_pos (gin_nI (by omega) (by decide)), nI_clamp (by omega), ea, mRank a ha, gB_some]
      by_cases d : rk a = 4
      · rw [if_pos (show nI (rk a) = 4 by rw [d]; rfl)]
        exact Or.inr ⟨⟨c, d⟩, w, rfl, w2⟩
      · rw [if_neg (nI_neL (y := 4) (b := 4) rfl rfl d (by have := rk_le a; omega) (by decide)), fin]
        exact Or.inl ⟨fun q => d q.2, x, rfl, x2⟩
  · rw [if_neg (nI_neL (y := 4) (b := 4) rfl rfl c (by have := rk_le s; omega) (by decide)), fin]
    exact Or.inl ⟨fun q => c q.1, x, rfl, x2⟩
/-- a sign between two -/
theorem lpOp {U u : gV} {T : Nat → Nat} {t p q r n : Nat} {b k z mn : Int32} {A H ro : List Nat} (ht : t < 6) (hU : U 0 11 = nI t) (hM : MP U T q) (hp : p ≤ q) (h : MS U u t p b k z (A ++ H) ro) (hs : sgn (tk T q p) ≠ 0) (hr : r = if rk (sgn (tk T q p)) = 4 then 5 else rk (sgn (tk T q p))) (hg : ge r A) (hH : tr H < r) (hl : A.length + H.length + ro.length ≤ p) : (¬ (rk (sgn (tk T q p)) = 4 ∧ tr H = 4) ∧ ∃ u' b' k' z', fX6_eRead_14 (n + 1) u 0 mn = fX6_eRead_14 n u' 1 (if sgn (tk T q p) ≤ 12 then 1 else 0) ∧ MS U u' t (nx T q p) b' k' z' (sgn (tk T q p) :: H) (A.reverse ++ ro)) ∨ ((rk (sgn (tk T q p)) = 4 ∧ tr H = 4) ∧ ∃ u', fX6_eRead_14 (n + 1) u 0 mn = some (0, u') ∧ MF U u' t (bg T q p)) := by
  have hq := hM.2.1
  have hin := tk_in T q p
  have hbi := sgn_bi _ hin hs
  obtain ⟨w, z', w1, w2, -⟩ := mNext h hM hp
  have hk : w 0 23 = mtok (tk T q p) := w2.2.2.1.2.2.2.1
  have n59 : ¬ mtok (tk T q p) = 59 := fun e => hs (by rw [(mk_59 _ hin).mp e]; rfl)
  have n41 : ¬ mtok (tk T q p) = 41 := fun e => hs (by rw [(mk_41 _ hin).mp e]; rfl)
  have hlt : sgn (tk T q p) < 20 := by unfold isBi at hbi; omega
  rw [fX6_eRead_14, w1, gB_some, if_pos rfl, hk, if_neg n59, if_neg n41, mSignI, hk, sI_tk _ hin, if_neg hs, gB_some, if_neg (nI_nm1 (by omega))]
  rcases mBetween (r := r) hbi hr ht hU w2 hg hH (by omega) (by omega) with ⟨c, x, x1, x2⟩ | ⟨c, x, x1, x2⟩
  · refine Or.inl ⟨c, x, _, _, _, ?_, x2⟩
    rw [x1, gB_some, if_neg ne10]
    unfold fX6_eRead_262
    by_cases d : sgn (tk T q p) ≤ 12
    · rw [if_neg (nI_nltL (x := 12) (a := 12) rfl rfl d (by decide)), if_pos d]
    · rw [if_pos (nI_yltL (x := 12) (a := 12) rfl rfl (by omega) (by omega)), if_neg d]
  · refine Or.inr ⟨c, x, ?_, _, _, _, _, _, x2⟩
    rw [x1, gB_some, if_pos rfl]
theorem tr_app {A H : List Nat} {r : Nat} (h : tr H < r) (hg : ∀ x ∈ A, rk x < r) : tr (A ++ H) < r := by
  cases A with
  | nil => exact h
  | cons a A => exact hg a (List.mem_cons_self ..)
/-- ) -/
theorem lpClose {U u : gV} {T : Nat → Nat} {t p q n : Nat} {b k z mn : Int32} {A R H ro : List Nat} (ht : t < 6) (hU : U 0 11 = nI t) (hM : MP U T q) (hp : p ≤ q) (h : MS U u t p b k z (A ++ (0 :: (R ++ H))) ro) (hs : tk T q p = 41) (hg : ge 1 A) (hR : ge 7 R) (hH : tr H < 7) (hl : A.length + (R.length + H.length + 1) + ro.length ≤ p) : ∃ u' b' k' z', fX6_eRead_14 (n + 1) u 0 mn = fX6_eRead_14 n u' 0 mn ∧ MS U u' t (nx T q p) b' k' z' H (R.reverse ++ (A.reverse ++ ro)) := by
  have hq := hM.2.1
  obtain ⟨w, z', w1, w2, -⟩ := mNext h hM hp
  have hk : w 0 23 = mtok (tk T q p) := w2.2.2.1.2.2.2.1
  have eL : (0 :: (R ++ H)).length = R.length + H.length + 1 := by rw [List.length_cons, List.length_append]
  rw [fX6_eRead_14, w1, gB_some, if_pos rfl, hk, hs, if_neg (by decide), if_pos (show mtok 41 = 41 from rfl)]
  obtain ⟨x, x1, x2⟩ := mUnw (x := 1) (r := 1) rfl ht hU (by decide) (by decide) (show tr (0 :: (R ++ H)) < 1 by show rk 0 < 1; decide) w2 hg (by omega) (by omega)
  have h5 : x 0 27 = nI (R ++ H).length.succ := x2.2.2.2.1.1
  have h6 : x 0 28 = nI (cn (0 :: (R ++ H))) := x2.2.2.2.1.2.1
  have e7 : nI (R ++ H).length.succ - 1 = nI (R ++ H).length := nI_pred _
  have e8 : nI (cn (0 :: (R ++ H))) - 1 = nI (cn (R ++ H)) := by
    show nI ((if (0 : Nat) = 0 ∨ (0 : Nat) = 13 ∨ (0 : Nat) = 19 then 1 else 0) + cn (R ++ H)) - 1 = _
    rw [if_pos (Or.inl rfl), Nat.add_comm, nI_pred]
  have e9 : (up1 x 0 27 (nI (R ++ H).length)) 0 28 = nI (cn (0 :: (R ++ H))) := by rw [up1_eq, upd_ne (by decide)]; exact h6
  have eRH : (R ++ H).length = R.length + H.length := List.length_append
  rw [x1, gB_some, h5, if_neg (show ¬ nI (R ++ H).length.succ = 0 from nI_neL (y := 0) (b := 0) rfl rfl (by omega) (by omega) (by decide)), e7, e9, e8]
  have lr : (A.reverse ++ ro).length = A.length + ro.length := by rw [List.length_append, List.length_reverse]
  obtain ⟨y, y1, y2⟩ := mUnw (x := 7) (r := 7) rfl ht hU (by decide) (by decide) hH (mDrop (H := R ++ H) x2 rfl) hR (by omega) (by omega)
  rw [y1, gB_some]
  exact ⟨y, _, _, _, rfl, y2⟩
/-- ) with no ( -/
theorem lpCloseF {U u : gV} {T : Nat → Nat} {t p q n : Nat} {b k z mn : Int32} {A ro : List Nat} (ht : t < 6) (hU : U 0 11 = nI t) (hM : MP U T q) (hp : p ≤ q) (h : MS U u t p b k z (A ++ []) ro) (hs : tk T q p = 41) (hg : ge 1 A) (hl : A.length + ro.length ≤ p) : ∃ u', fX6_eRead_14 (n + 1) u 0 mn = some (0, u') ∧ MF U u' t (bg T q p) := by
  have hq := hM.2.1
  obtain ⟨w, z', w1, w2, -⟩ := mNext h hM hp
  have hk : w 0 23 = mtok (tk T q p) := w2.2.2.1.2.2.2.1
  rw [fX6_eRead_14, w1, gB_some, if_pos rfl, hk, hs, if_neg (by decide), if_pos (show mtok 41 = 41 from rfl)]
  obtain ⟨x, x1, x2⟩ := mUnw (x := 1) (r := 1) rfl ht hU (by decide) (by decide) (show tr [] < 1 by decide) w2 hg (by omega) (by show A.length + 0 ≤ 200; omega)
  have h5 : x 0 27 = nI 0 := x2.2.2.2.1.1
  rw [x1, gB_some, h5, if_pos (show nI 0 = 0 from rfl)]
  exact ⟨x, rfl, _, _, _, _, _, x2⟩
/-- ; at the end -/
theorem lpSemi {U u : gV} {T : Nat → Nat} {t p q n : Nat} {b k z mn : Int32} {A ro : List Nat} (ht : t < 6) (hU : U 0 11 = nI t) (hM : MP U T q) (hp : p ≤ q) (h : MS U u t p b k z (A ++ []) ro) (hs : tk T q p = 59) (hg : ge 1 A) (hl : A.length + ro.length ≤ p) : ∃ u' b' k' z', fX6_eRead_14 (n + 1) u 0 mn = some (1, u') ∧ MS U u' t (nx T q p) b' k' z' [] (A.reverse ++ ro) := by
  have hq := hM.2.1
  obtain ⟨w, z', w1, w2, -⟩ := mNext h hM hp
  have hk : w 0 23 = mtok (tk T q p) := w2.2.2.1.2.2.2.1
  rw [fX6_eRead_14, w1, gB_some, if_pos rfl, hk, hs, if_pos (show mtok 59 = 59 from rfl)]
  obtain ⟨x, x1, x2⟩ := mUnw (x := 1) (r := 1) rfl ht hU (by decide) (by decide) (show tr [] < 1 by decide) w2 hg (by omega) (by show A.length + 0 ≤ 200; omega)
  have h5 : x 0 27 = nI 0 := x2.2.2.2.1.1
  rw [x1, gB_some, h5, if_pos (show nI 0 = 0 from rfl)]
  exact ⟨x, _, _, _, rfl, x2⟩
/-- ; within ( -/
theorem lpSemiF {U u : gV} {T : Nat → Nat} {t p q n : Nat} {b k z mn : Int32} {A H ro : List Nat} (ht : t < 6) (hU : U 0 11 = nI t) (hM : MP U T q) (hp : p ≤ q) (h : MS U u t p b k z (A ++ (0 :: H)) ro) (hs : tk T q p = 59) (hg : ge 1 A) (hl : A.length + (H.length + 1) + ro.length ≤ p) : ∃ u', fX6_eRead_14 (n + 1) u 0 mn = some (0, u') ∧ MF U u' t (bg T q p) := by
  have hq := hM.2.1
  obtain ⟨w, z', w1, w2, -⟩ := mNext h hM hp
  have hk : w 0 23 = mtok (tk T q p) := w2.2.2.1.2.2.2.1
  rw [fX6_eRead_14, w1, gB_some, if_pos rfl, hk, hs, if_pos (show mtok 59 = 59 from rfl)]
  obtain ⟨x, x1, x2⟩ := mUnw (x := 1) (r := 1) rfl ht hU (by decide) (by decide) (show tr (0 :: H) < 1 by show rk 0 < 1; decide) w2 hg (by omega) (by show A.length + (H.length + 1) ≤ 200; omega)
  have h5 : x 0 27 = nI H.length.succ := x2.2.2.2.1.1
  rw [x1, gB_some, h5, if_neg (show ¬ nI H.length.succ = 0 from nI_neL (y := 0) (b := 0) rfl rfl (by omega) (by omega) (by decide))]
  exact ⟨x, rfl, _, _, _, _, _, x2⟩
/-- no sign at all -/
theorem lpNoF {U u : gV} {T : Nat → Nat} {t p q n : Nat} {b k z mn : Int32} {H ro : List Nat} (hM : MP U T q) (hp : p ≤ q) (h : MS U u t p b k z H ro) (hs : sgn (tk T q p) = 0) (h1 : tk T q p ≠ 59) (h2 : tk T q p ≠ 41) : ∃ u', fX6_eRead_14 (n + 1) u 0 mn = some (0, u') ∧ MF U u' t (bg T q p) := by
  have hin := tk_in T q p
  obtain ⟨w, z', w1, w2, -⟩ := mNext h hM hp
  have hk : w 0 23 = mtok (tk T q p) := w2.2.2.1.2.2.2.1
  rw [fX6_eRead_14, w1, gB_some, if_pos rfl, hk, if_neg (fun e => h1 ((mk_59 _ hin).mp e)), if_neg (fun e => h2 ((mk_41 _ hin).mp e)), mSignI, hk, sI_tk _ hin, if_pos hs, gB_some, if_pos rfl]
  exact ⟨w, rfl, _, _, _, _, _, w2⟩
/-- a number, a name -/
theorem lpOpd {U u : gV} {T : Nat → Nat} {t p q n c : Nat} {b k z mn : Int32} {R H ro : List Nat} (ht : t < 6) (hU : U 0 11 = nI t) (hM : MP U T q) (hp : p ≤ q) (h : MS U u t p b k z (R ++ H) ro) (hs : (tk T q p = 2 ∧ c = 100000 + nm T q p) ∨ (c < 6 ∧ tk T q p = 306 + c)) (hR : ge 7 R) (hH : tr H < 7) (hl : R.length + H.length + ro.length ≤ p) : ∃ u' b' k' z', fX6_eRead_14 (n + 1) u 1 mn = fX6_eRead_14 n u' 0 mn ∧ MS U u' t (nx T q p) b' k' z' H (R.reverse ++ (c :: ro)) := by
  have hq := hM.2.1
  have hin := tk_in T q p
  obtain ⟨w, z', w1, w2, w3⟩ := mNext h hM hp
  have hk : w 0 23 = mtok (tk T q p) := w2.2.2.1.2.2.2.1
  have hz : w 0 24 = z' := w2.2.2.1.2.2.2.2
  obtain ⟨x, x1, x2⟩ := mPuts w2 ht hU (by omega) c
  obtain ⟨y, y1, y2⟩ := mUnw (x := 7) (r := 7) rfl ht hU (by decide) (by decide) hH x2 hR (by show R.length + (ro.length + 1) ≤ 200; omega) (by omega)
  have fin : ∀ c', c' = nI c → fX6_eRead_61 (fX6_eRead_14 n) w mn c' = fX6_eRead_14 n y 0 mn := by
    intro c' e
    unfold fX6_eRead_61
    rw [e, x1, gB_some, y1, gB_some]
  refine ⟨y, _, _, _, ?_, y2⟩
  rw [fX6_eRead_14, w1, gB_some, if_neg ne10, hk]
  rcases hs with ⟨s1, s2⟩ | ⟨s1, s2⟩
  · unfold fX6_eRead_38
    rw [if_pos ((mk_1 _ hin).mpr s1), if_pos (hk.trans ((mk_1 _ hin).mpr s1)), fin _ (by rw [hz, w3.1 s1, s2, show (100000 : Int32) = nI 100000 from rfl, nI_add])]
  · unfold fX6_eRead_38
    rw [if_neg (fun e => by have := (mk_1 _ hin).mp e; omega), if_pos ((mk_2 _ hin).mpr (by omega)), if_neg (fun e => by have := (mk_1 _ hin).mp (hk.symm.trans e); omega), fin _ (by rw [hz, w3.2.2 c s1 s2])]
/-- not -/
theorem lpNot {U u : gV} {T : Nat → Nat} {t p q n : Nat} {b k z : Int32} {H ro : List Nat} (hM : MP U T q) (hp : p ≤ q) (h : MS U u t p b k z H ro) (hs : tk T q p = 305) (hl : H.length + ro.length ≤ p) (hc : cn H ≤ 5) : (cn H < 5 ∧ ∃ u' b' k' z', fX6_eRead_14 (n + 1) u 1 1 = fX6_eRead_14 n u' 1 1 ∧ MS U u' t (nx T q p) b' k' z' (13 :: H) ro) ∨ (cn H = 5 ∧ ∃ u', fX6_eRead_14 (n + 1) u 1 1 = some (0, u') ∧ MF U u' t (bg T q p)) := by
  have hq := hM.2.1
  obtain ⟨w, z', w1, w2, -⟩ := mNext h hM hp
  have hk : w 0 23 = mtok (tk T q p) := w2.2.2.1.2.2.2.1
  rw [fX6_eRead_14, w1, gB_some, if_neg ne10, hk, hs, if_neg (by decide), if_neg (by decide), if_pos (show mtok 305 = 6 from rfl), if_neg ne10]
  by_cases c : cn H < 5
  · obtain ⟨x, x1, x2⟩ := mOpens (a := 13) w2 (by omega) (by decide) c
    refine Or.inl ⟨c, x, _, _, _, ?_, x2⟩
    rw [show (13 : Int32) = nI 13 from rfl, x1, gB_some, if_neg ne10]
  · have c5 : cn H = 5 := by omega
    refine Or.inr ⟨c5, w, ?_, _, _, _, _, _, w2⟩
    rw [mOpens5 w2 c5, gB_some, if_pos rfl]
/-- - ahead of one -/
theorem lpNeg {U u : gV} {T : Nat → Nat} {t p q n : Nat} {b k z mn : Int32} {H ro : List Nat} (hM : MP U T q) (hp : p ≤ q) (h : MS U u t p b k z H ro) (hs : tk T q p = 45) (hl : H.length + ro.length ≤ p) (hc : cn H ≤ 5) : (cn H < 5 ∧ ∃ u' b' k' z', fX6_eRead_14 (n + 1) u 1 mn = fX6_eRead_14 n u' 1 0 ∧ MS U u' t (nx T q p) b' k' z' (19 :: H) ro) ∨ (cn H = 5 ∧ ∃ u', fX6_eRead_14 (n + 1) u 1 mn = some (0, u') ∧ MF U u' t (bg T q p)) := by
  have hq := hM.2.1
  obtain ⟨w, z', w1, w2, -⟩ := mNext h hM hp
  have hk : w 0 23 = mtok (tk T q p) := w2.2.2.1.2.2.2.1
  have hk' : w 0 23 = 45 := by rw [hk, hs]; rfl
  rw [fX6_eRead_14, w1, gB_some, if_neg ne10, hk', if_neg (by decide), if_neg (by decide), if_neg (by decide)]
  unfold fX6_eRead_99
  rw [hk', if_pos rfl]
  by_cases c : cn H < 5
  · obtain ⟨x, x1, x2⟩ := mOpens (a := 19) w2 (by omega) (by decide) c
    refine Or.inl ⟨c, x, _, _, _, ?_, x2⟩
    rw [show (19 : Int32) = nI 19 from rfl, x1, gB_some, if_neg ne10]
  · have c5 : cn H = 5 := by omega
    refine Or.inr ⟨c5, w, ?_, _, _, _, _, _, w2⟩
    rw [mOpens5 w2 c5, gB_some, if_pos rfl]
/-- ( -/
theorem lpPar {U u : gV} {T : Nat → Nat} {t p q n : Nat} {b k z mn : Int32} {H ro : List Nat} (hM : MP U T q) (hp : p ≤ q) (h : MS U u t p b k z H ro) (hs : tk T q p = 40) (hl : H.length + ro.length ≤ p) (hc : cn H ≤ 5) : (cn H < 5 ∧ ∃ u' b' k' z', fX6_eRead_14 (n + 1) u 1 mn = fX6_eRead_14 n u' 1 1 ∧ MS U u' t (nx T q p) b' k' z' (0 :: H) ro) ∨ (cn H = 5 ∧ ∃ u', fX6_eRead_14 (n + 1) u 1 mn = some (0, u') ∧ MF U u' t (bg T q p)) := by
  have hq := hM.2.1
  obtain ⟨w, z', w1, w2, -⟩ := mNext h hM hp
  have hk : w 0 23 = mtok (tk T q p) := w2.2.2.1.2.2.2.1
  have hk' : w 0 23 = 40 := by rw [hk, hs]; rfl
  rw [fX6_eRead_14, w1, gB_some, if_neg ne10, hk', if_neg (by decide), if_neg (by decide), if_neg (by decide)]
  unfold fX6_eRead_99
  rw [hk', if_neg (by decide), if_pos rfl]
  by_cases c : cn H < 5
  · obtain ⟨x, x1, x2⟩ := mOpens (a := 0) w2 (by omega) (by decide) c
    refine Or.inl ⟨c, x, _, _, _, ?_, x2⟩
    rw [show fX6_opensOne w 0 = fX6_opensOne w (nI 0) from rfl, x1, gB_some, if_neg ne10]
  · have c5 : cn H = 5 := by omega
    refine Or.inr ⟨c5, w, ?_, _, _, _, _, _, w2⟩
    rw [mOpens5 w2 c5, gB_some, if_pos rfl]
/-- nothing that one can begin with -/
theorem lpWantF {U u : gV} {T : Nat → Nat} {t p q n : Nat} {b k z mn : Int32} {H ro : List Nat} (hM : MP U T q) (hp : p ≤ q) (h : MS U u t p b k z H ro) (h1 : tk T q p ≠ 2) (h2 : tk T q p < 306) (h3 : tk T q p ≠ 305 ∨ mn = 0) (h4 : tk T q p ≠ 45) (h5 : tk T q p ≠ 40) : ∃ u', fX6_eRead_14 (n + 1) u 1 mn = some (0, u') ∧ MF U u' t (bg T q p) := by
  have hin := tk_in T q p
  obtain ⟨w, z', w1, w2, -⟩ := mNext h hM hp
  have hk : w 0 23 = mtok (tk T q p) := w2.2.2.1.2.2.2.1
  have e99 : fX6_eRead_99 (fX6_eRead_14 n) w 1 = some (0, w) := by
    unfold fX6_eRead_99
    rw [hk, if_neg (fun e => h4 ((mk_45 _ hin).mp e)), if_neg (fun e => h5 ((mk_40 _ hin).mp e))]
  refine ⟨w, ?_, _, _, _, _, _, w2⟩
  rw [fX6_eRead_14, w1, gB_some, if_neg ne10, hk, if_neg (fun e => h1 ((mk_1 _ hin).mp e)), if_neg (fun e => by have := (mk_2 _ hin).mp e; omega)]
  by_cases c : mtok (tk T q p) = 6
  · have c' := (mk_6 _ hin).mp c
    rw [if_pos c, if_pos (h3.elim (fun e => absurd c' e) id), e99]
  · rw [if_neg c, e99]
