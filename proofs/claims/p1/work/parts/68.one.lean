/-! one; all levels together -/
theorem sgn_rk : ∀ a ∈ tkL, sgn a ≠ 0 → rk (sgn a) = 1 ∨ rk (sgn a) = 2 ∨ rk (sgn a) = 4 ∨ rk (sgn a) = 5 ∨ rk (sgn a) = 6 := by decide
theorem stuckS {V U u : gV} {T : Nat → Nat} {q t p n : Nat} {b k z mn : Int32} {H1 H ro : List Nat} (hA : AM V U T q t) (hp : p ≤ q) (h : MS U u t p b k z (H1 ++ H) ro) (hP : PT 0 (sgn (tk T q p)) H1) (hs : sgn (tk T q p) ≠ 0) (hl : H1.length + H.length + ro.length ≤ p) : ∃ u', fX6_eRead_14 (n + 1) u 0 mn = some (0, u') ∧ MF U u' t (bg T q p) := by
  obtain ⟨hV, hM, hU, ht6⟩ := hA
  have hin := tk_in T q p
  have h4 : rk (sgn (tk T q p)) = 4 := by
    rcases sgn_rk _ hin hs with e | e | e | e | e
    · exact absurd e (hP.2.2.2.2 rfl)
    · exact absurd e (hP.2.2.2.1 (by decide))
    · exact e
    · exact absurd e (hP.2.1 (by decide))
    · exact absurd e (hP.1 (by decide))
  obtain ⟨A, a, B, rfl, g1, g2⟩ := hP.2.2.1 (by decide) h4
  rw [List.append_assoc, List.cons_append] at h
  rw [List.length_append, List.length_cons] at hl
  rcases lpOp (n := n) (mn := mn) (r := 5) (H := a :: (B ++ H)) ht6 hU hM hp h hs (by rw [if_pos h4]) g1 (by show rk a < 5; omega) (by rw [List.length_cons, List.length_append]; omega) with ⟨w, -⟩ | ⟨-, w⟩
  · exact absurd ⟨h4, g2⟩ w
  · exact w
theorem stuckP {V U u : gV} {T : Nat → Nat} {q t p n : Nat} {b k z mn : Int32} {H1 H ro : List Nat} (hA : AM V U T q t) (hp : p ≤ q) (h : MS U u t p b k z (H1 ++ (0 :: H)) ro) (hg : ge 1 H1) (hP : PT 0 (sgn (tk T q p)) H1) (hs : tk T q p ≠ 41) (hl : H1.length + (H.length + 1) + ro.length ≤ p) : ∃ u', fX6_eRead_14 (n + 1) u 0 mn = some (0, u') ∧ MF U u' t (bg T q p) := by
  by_cases c : sgn (tk T q p) = 0
  · by_cases d : tk T q p = 59
    · exact lpSemiF hA.2.2.2 hA.2.2.1 hA.2.1 hp h d hg hl
    · exact lpNoF hA.2.1 hp h c d hs
  · exact stuckS hA hp h hP c (by rw [List.length_cons]; omega)
theorem stuckT {V U u : gV} {T : Nat → Nat} {q t p n : Nat} {b k z mn : Int32} {H1 ro : List Nat} (hA : AM V U T q t) (hp : p ≤ q) (h : MS U u t p b k z (H1 ++ []) ro) (hg : ge 1 H1) (hP : PT 0 (sgn (tk T q p)) H1) (hs : tk T q p ≠ 59) (hl : H1.length + ro.length ≤ p) : ∃ u', fX6_eRead_14 (n + 1) u 0 mn = some (0, u') ∧ MF U u' t (bg T q p) := by
  by_cases c : sgn (tk T q p) = 0
  · by_cases d : tk T q p = 41
    · exact lpCloseF hA.2.2.2 hA.2.2.1 hA.2.1 hp h d hg hl
    · exact lpNoF hA.2.1 hp h c hs d
  · exact stuckS hA hp h hP c (by show H1.length + 0 + ro.length ≤ p; omega)
theorem t2 : ∀ a ∈ tkL, (nI a = 2 ↔ a = 2) := by decide
theorem t45 : ∀ a ∈ tkL, (nI a = 45 ↔ a = 45) := by decide
theorem t40 : ∀ a ∈ tkL, (nI a = 40 ↔ a = 40) := by decide
theorem t41 : ∀ a ∈ tkL, (nI a = 41 ↔ a = 41) := by decide
theorem t59 : ∀ a ∈ tkL, (nI a = 59 ↔ a = 59) := by decide
theorem t306 : ∀ a ∈ tkL, a < 306 → nI a - 306 < 0 := by decide
theorem t306e : ∀ a ∈ tkL, ¬ a < 306 → a - 306 < 6 ∧ a = 306 + (a - 306) := by decide
theorem mEnc_n {c : Nat} : mEnc (100000 + c) = c := by
  unfold mEnc
  rw [if_neg (by omega), if_pos (by omega)]
  omega
theorem mEnc_p : ∀ c, c < 6 → 10000 + gS2 c = nI (mEnc c) := by decide
/-- an operand: its code, and on -/
theorem opd {V U v u : gV} {T : Nat → Nat} {q t o f p c : Nat} {R H ro : List Nat} {b k z mn : Int32} (hA : AM V U T q t) (hC : CS V v T q t p ro) (hMS : MS U u t p b k z (R ++ H) ro) (hp : p ≤ q) (hf : 1000 ≤ f + p) (hl : R.length + H.length + ro.length ≤ p) (hR7 : ge 7 R) (ht : tr H < 7) (hs : (tk T q p = 2 ∧ c = 100000 + nm T q p) ∨ (c < 6 ∧ tk T q p = 306 + c)) : ∃ w v', fX3_emit v (nI (mEnc c)) = some ((), w) ∧ fX3_step w = some ((), v') ∧ ∃ (p' f' : Nat) (rc : List Nat) (u' : gV) (b k z mn' : Int32), (fX6_eRead_14 f u 1 mn = fX6_eRead_14 f' u' 0 mn' ∧ 1000 ≤ f' + p') ∧ CS V v' T q t p' (rc ++ ro) ∧ MS U u' t p' b k z H (R.reverse ++ (rc ++ ro)) ∧ (p < p' ∧ p' ≤ q ∧ p + rc.length ≤ p') ∧ coL rc ∧ ∀ h, h + dp 5 o ≤ 40 → hR rc h = some (h + 1) := by
  obtain ⟨hV, hM, hU, ht6⟩ := hA
  have hq := hV.2.1
  have hlt := tk_0 (T := T) (q := q) (p := p) (by omega)
  have hle := bg_le (T := T) hp
  have hnx := nx_le (T := T) hp
  obtain ⟨n', rfl⟩ : ∃ n', f = n' + 1 := ⟨f - 1, by omega⟩
  obtain ⟨w, w1, w2⟩ := cEmit (c := c) hC ht6 (by omega) rfl
  obtain ⟨v', s1, s2⟩ := cNext w2 hV ht6 hp
  obtain ⟨u', b', k', z', e2, M2⟩ := lpOpd (n := n') (mn := mn) ht6 hU hM hp hMS hs hR7 ht (by omega)
  have hpu : isPu c := by
    rcases hs with ⟨h1, h2⟩ | ⟨h1, -⟩
    · have := nm_lt (T := T) hp h1
      exact Or.inr ⟨by omega, by omega⟩
    · exact Or.inl h1
  refine ⟨w, v', w1, s1, nx T q p, n', [c], u', b', k', z', mn, ⟨e2, by omega⟩, s2, M2, ⟨by omega, hnx.2.1, by show p + 1 ≤ _; omega⟩, ⟨Or.inl hpu, trivial⟩, fun h hh => ?_⟩
  show sT c h = _
  exact sT_pu hpu (by unfold dp at hh; omega)
theorem lvOne {V U : gV} {T : Nat → Nat} {q t o : Nat} {R : Nat → gV → Int32 → Option (Int32 × gV)} (hA : AM V U T q t) (ho : o ≤ 5) (h5 : o < 5 → J5 V U T q t (R 5) (o + 1)) (h0 : o < 5 → J V U T q t (R 0) 0 (o + 1)) : J5 V U T q t (fX3_readOne R) o := by
  intro v u f p S H ro b k z mn hC hMS hp hf hl hc hS ht hm
  have hA' := hA
  obtain ⟨hV, hM, hU, ht6⟩ := hA
  have hq := hV.2.1
  have hin := tk_in T q p
  have hnx := nx_le (T := T) hp
  have hle := bg_le (T := T) hp
  have e4 := hC.2.1.2.2.1
  unfold fX3_readOne
  rw [e4]
  by_cases c2 : tk T q p = 2
  · rw [if_pos ((t2 _ hin).mpr c2), hC.2.1.2.2.2 c2]
    obtain ⟨w, v', w1, s1, r⟩ := opd (o := o) (c := 100000 + nm T q p) (mn := mn) hA' hC hMS hp hf hl hS ht (Or.inl ⟨c2, rfl⟩)
    rw [mEnc_n] at w1
    rw [w1, gB_some, s1, gB_some]
    exact ⟨1, v', rfl, Or.inl ⟨rfl, r⟩⟩
  · rw [if_neg (fun w => c2 ((t2 _ hin).mp w))]
    by_cases c6 : tk T q p < 306
    · rw [if_pos (t306 _ hin c6)]
      unfold fX3_readOne_62 fX3_readOne_80
      rw [e4]
      obtain ⟨n', rfl⟩ : ∃ n', f = n' + 1 := ⟨f - 1, by omega⟩
      have hlS : (S ++ H).length = S.length + H.length := List.length_append
      by_cases c45 : tk T q p = 45
      · have hlt := tk_0 (T := T) (q := q) (p := p) (by omega)
        rw [if_pos ((t45 _ hin).mpr c45), if_pos ((t45 _ hin).mpr c45)]
        rcases lpNeg (n := n') (mn := mn) hM hp hMS c45 (by omega) (by omega) with ⟨c5, u2, b', k', z', e2, M2⟩ | ⟨c5, u2, e2, F2⟩
        · rw [if_pos (nI_yltL (y := 5) (b := 5) rfl rfl (by omega) (by decide)), e2]
          obtain ⟨v2, s2, C2⟩ := cNext hC hV ht6 hp
          obtain ⟨y, v3, e3, r3⟩ := h5 (by omega) v2 u2 n' (nx T q p) (19 :: S) H ro b' k' z' 0 C2 M2 hnx.2.1 (by omega) (by rw [List.length_cons]; omega) (by
            show 1 + cn (S ++ H) = o + 1
            omega) ⟨by decide, hS⟩ ht (Or.inl rfl)
          rw [s2, gB_some, nI_1, e3, gB_some]
          rcases r3 with ⟨rfl, p2, f2, rc', u3, b2', k2, z2, mn2, ⟨L1, L2⟩, C3, M3, P3, O3, D3⟩ | ⟨rfl, pf, hCF, hrest⟩
          · have hlo3 : (rc' ++ ro).length = rc'.length + ro.length := List.length_append
            obtain ⟨v4, s4, C4⟩ := cEmit (c := 19) (x := 20000) C3 ht6 (by omega) rfl
            rw [s4, gB_some, r1, L1]
            exact ⟨1, v4, rfl, Or.inl ⟨rfl, p2, f2, 19 :: rc', u3, b2', k2, z2, mn2, ⟨rfl, L2⟩, C4, by rw [List.reverse_cons, List.append_assoc] at M3; exact M3, ⟨by omega, P3.2.1, by rw [List.length_cons]; omega⟩, ⟨Or.inr (Or.inr (Or.inl rfl)), O3⟩, fun h hh' => by
                show (hR rc' h).bind (sT 19) = _
                rw [D3 h (by have := dp_o (g := 5) (show o < 5 by omega); omega)]
                exact sT_un (Or.inr rfl)⟩⟩
          · obtain ⟨v4, s4, C4⟩ := cEmitF (x := 20000) hCF ht6
            rw [s4, gB_some, r0]
            exact ⟨0, v4, rfl, Or.inr ⟨rfl, pf, C4, hrest⟩⟩
        · rw [if_neg (nI_nltL (y := 5) (b := 5) rfl rfl (by omega) (by omega)), e2]
          exact ⟨0, v, rfl, Or.inr ⟨rfl, p, CS_CF hC (by omega), u2, rfl, F2⟩⟩
      · rw [if_neg (fun w => c45 ((t45 _ hin).mp w)), if_neg (fun w => c45 ((t45 _ hin).mp w))]
        by_cases c40 : tk T q p = 40
        · have hlt := tk_0 (T := T) (q := q) (p := p) (by omega)
          rw [if_pos ((t40 _ hin).mpr c40)]
          rcases lpPar (n := n') (mn := mn) hM hp hMS c40 (by omega) (by omega) with ⟨c5, u2, b', k', z', e2, M2⟩ | ⟨c5, u2, e2, F2⟩
          · rw [if_pos (nI_yltL (y := 5) (b := 5) rfl rfl (by omega) (by decide)), e2]
            obtain ⟨v2, s2, C2⟩ := cNext hC hV ht6 hp
            obtain ⟨y, v3, e3, r3⟩ := h0 (by omega) v2 u2 n' (nx T q p) (0 :: (S ++ H)) ro b' k' z' 1 C2 M2 hnx.2.1 (by omega) (by rw [List.length_cons]; omega) (by
              show 1 + cn (S ++ H) = o + 1
              omega) (by show rk 0 < hb 0; decide) (fun _ => rfl) (fun w => absurd w (by decide))
            rw [s2, gB_some, nI_1, e3, gB_some]
            rcases r3 with ⟨rfl, p2, f2, rc, H1, rc1, u3, b2', k2, z2, mn2, ⟨L1, L2⟩, C3, M3, R3, P3, G3, O3, D3, T3⟩ | ⟨rfl, F3⟩
            · have hin2 := tk_in T q p2
              have hlr : rc.length = H1.length + rc1.length := by rw [R3, List.length_append, List.length_reverse]
              have hlo : (rc1 ++ ro).length = rc1.length + ro.length := List.length_append
              have hlo2 : (rc ++ ro).length = rc.length + ro.length := List.length_append
              have hle2 := bg_le (T := T) P3.2.1
              have hnx2 := nx_le (T := T) P3.2.1
              obtain ⟨n2, rfl⟩ : ∃ n2, f2 = n2 + 1 := ⟨f2 - 1, by omega⟩
              rw [if_neg ne10, C3.2.1.2.2.1, L1]
              by_cases c41 : tk T q p2 = 41
              · have hlt2 := tk_0 (T := T) (q := q) (p := p2) (by omega)
                rw [if_pos ((t41 _ hin2).mpr c41)]
                obtain ⟨v4, s4, C4⟩ := cNext C3 hV ht6 P3.2.1
                obtain ⟨u4, b4, k4, z4, e5, M5⟩ := lpClose (n := n2) (mn := mn2) ht6 hU hM P3.2.1 M3 c41 G3 hS ht (by omega)
                rw [s4, gB_some, e5]
                rw [← List.append_assoc H1.reverse, ← R3] at M5
                exact ⟨1, v4, rfl, Or.inl ⟨rfl, nx T q p2, n2, rc, u4, b4, k4, z4, mn2, ⟨rfl, by omega⟩, C4, M5, ⟨by omega, hnx2.2.1, by omega⟩, O3, fun h hh' => D3 h (by unfold dp at hh' ⊢; omega)⟩⟩
              · rw [if_neg (fun w => c41 ((t41 _ hin2).mp w))]
                exact ⟨0, v3, rfl, Or.inr ⟨rfl, p2, CS_CF C3 (by omega), stuckP hA' P3.2.1 M3 G3 T3 c41 (by omega)⟩⟩
            · rw [if_pos rfl]
              exact ⟨0, v3, rfl, Or.inr ⟨rfl, F3⟩⟩
          · rw [if_neg (nI_nltL (y := 5) (b := 5) rfl rfl (by omega) (by omega)), e2]
            exact ⟨0, v, rfl, Or.inr ⟨rfl, p, CS_CF hC (by omega), u2, rfl, F2⟩⟩
        · rw [if_neg (fun w => c40 ((t40 _ hin).mp w))]
          exact ⟨0, v, rfl, Or.inr ⟨rfl, p, CS_CF hC (by omega), lpWantF hM hp hMS c2 c6 hm.symm c45 c40⟩⟩
    · obtain ⟨d1, d2⟩ := t306e _ hin c6
      have e5 : nI (tk T q p) - 306 = nI (tk T q p - 306) := by
        rw [show (306 : Int32) = nI 306 from rfl, pk_sub (by omega)]
      rw [e5, if_neg (nI_pos (by omega)), if_neg (nI_nleL (x := 6) (a := 6) rfl rfl d1 (by decide)), if_pos (gin_nI d1 (by decide)), nI_clamp (by omega), mEnc_p _ d1]
      obtain ⟨w, v', w1, s1, r⟩ := opd (o := o) (c := tk T q p - 306) (mn := mn) hA' hC hMS hp hf hl hS ht (Or.inr ⟨d1, d2⟩)
      rw [w1, gB_some, s1, gB_some]
      exact ⟨1, v', rfl, Or.inl ⟨rfl, r⟩⟩
theorem rdAll {V U : gV} {T : Nat → Nat} {q t : Nat} (hA : AM V U T q t) : ∀ n o, o ≤ 5 → (6 * (5 - o) + 1 ≤ n → J5 V U T q t (fX3_rd n 5) o) ∧ ∀ g, g < 5 → 6 * (5 - o) + (6 - g) ≤ n → J V U T q t (fX3_rd n g) g o := by
  intro n
  induction n with
  | zero => intro o ho; exact ⟨fun h => by omega, fun g hg h => by omega⟩
  | succ n ih =>
    intro o ho
    refine ⟨fun h => ?_, fun g hg h => ?_⟩
    · exact lvOne (R := fX3_rd n) hA ho (fun c => (ih (o + 1) (by omega)).1 (by omega)) (fun c => (ih (o + 1) (by omega)).2 0 (by decide) (by omega))
    · match g, hg with
      | 0, _ => exact lvOr (R := fX3_rd n) hA ((ih o ho).2 1 (by decide) (by omega))
      | 1, _ => exact lvAnd (R := fX3_rd n) hA ((ih o ho).2 2 (by decide) (by omega))
      | 2, _ => exact lvNot (R := fX3_rd n) hA ho ((ih o ho).2 3 (by decide) (by omega)) (fun c => (ih (o + 1) (by omega)).2 2 (by decide) (by omega))
      | 3, _ => exact lvSum (R := fX3_rd n) hA ((ih o ho).2 4 (by decide) (by omega))
      | 4, _ => exact lvTerm (R := fX3_rd n) hA (J5_J ((ih o ho).1 (by omega)))
