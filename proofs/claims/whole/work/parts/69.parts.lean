/-! the three parts of a text: both sides -/
/-- as MS, whatever lies on the pile -/
def MW (U u : gV) (t p : Nat) (b k z : Int32) (ro : List Nat) : Prop :=
  (∀ j, j ≠ 0 → j ≠ 7 → j ≠ 15 → u j = U j) ∧ (∀ j, j < 200 * t → u 7 j = U 7 j) ∧ ((∀ j, (j < 21 ∨ j = 25 ∨ j = 26 ∨ 29 < j) → u 0 j = U 0 j) ∧ u 0 21 = nI p ∧ u 0 22 = b ∧ u 0 23 = k ∧ u 0 24 = z) ∧ u 0 29 = nI ro.length ∧ stk (u 7) id (200 * t) ro
theorem MS_MW {U u : gV} {t p : Nat} {b k z : Int32} {H ro : List Nat} (h : MS U u t p b k z H ro) : MW U u t p b k z ro := ⟨h.1, h.2.1, h.2.2.1, h.2.2.2.1.2.2, h.2.2.2.2.2⟩
def MFw (U u : gV) (t b : Nat) : Prop := ∃ p k z ro, MW U u t p (nI b) k z ro
theorem MF_w {U u : gV} {t b : Nat} (h : MF U u t b) : MFw U u t b := by
  obtain ⟨p, k, z, H, ro, h⟩ := h
  exact ⟨p, k, z, ro, MS_MW h⟩
theorem mNextW {U u : gV} {t p q : Nat} {b k z : Int32} {ro : List Nat} {T : Nat → Nat} (h : MW U u t p b k z ro) (hU : MP U T q) (hp : p ≤ q) : ∃ u' z', fX6_next u = some ((), u') ∧ MW U u' t (nx T q p) (nI (bg T q p)) (mtok (tk T q p)) z' ro ∧ mvOk T q p z' := by
  obtain ⟨h1, h2, ⟨h3, h4⟩, h7, h9⟩ := h
  have hM : MP u T q := by
    refine ⟨by rw [h3 8 (by omega)]; exact hU.1, hU.2.1, ?_, ?_⟩
    · rw [h1 6 (by omega) (by omega) (by omega)]; exact hU.2.2.1
    · rw [h1 14 (by omega) (by omega) (by omega)]; exact hU.2.2.2
  obtain ⟨g, g1, g2, g3, g4, g5, g6⟩ := mStep hM hp h4.1
  refine ⟨_, g 24, g1, ⟨?_, ?_, ⟨?_, ?_, ?_, ?_, ?_⟩, ?_, ?_⟩, g5⟩
  · intro j a0 a7 a15; rw [up2_ne a0]; exact h1 j a0 a7 a15
  · intro j hj; rw [up2_ne (by decide)]; exact h2 j hj
  · intro j hj; rw [up2_eq, g6 j (by omega)]; exact h3 j hj
  · rw [up2_eq]; exact g2
  · rw [up2_eq]; exact g3
  · rw [up2_eq]; exact g4
  · rw [up2_eq]
  · rw [up2_eq, g6 29 (by omega)]; exact h7
  · rw [up2_ne (by decide)]; exact h9
theorem MW_up8 {U u : gV} {t p i : Nat} {b k z x : Int32} {ro : List Nat} (h : MW U u t p b k z ro) : MW (up1 U 8 i x) (up1 u 8 i x) t p b k z ro := by
  obtain ⟨h1, h2, h3, h7, h9⟩ := h
  refine ⟨?_, ?_, ?_, ?_, ?_⟩
  · intro j a0 a7 a15
    by_cases e : j = 8
    · rw [e, up1_eq, up1_eq, h1 8 (by decide) (by decide) (by decide)]
    · rw [up1_ne e, up1_ne e]; exact h1 j a0 a7 a15
  · rw [up1_ne (by decide), up1_ne (by decide)]; exact h2
  · rw [up1_ne (show 0 ≠ 8 by decide), up1_ne (show 0 ≠ 8 by decide)]; exact h3
  · rw [up1_ne (by decide)]; exact h7
  · rw [up1_ne (by decide)]; exact h9
theorem AM_up {V U : gV} {T : Nat → Nat} {q t k i : Nat} {x y : Int32} (h : AM V U T q t) : AM (up1 V (43 + t) k x) (up1 U 8 i y) T q t := by
  obtain ⟨⟨h1, h2, h3⟩, ⟨m1, m2, m3, m4⟩, h5, h6⟩ := h
  refine ⟨⟨?_, h2, ?_⟩, ⟨?_, m2, ?_, ?_⟩, ?_, h6⟩
  · rw [up1_ne (by omega)]; exact h1
  · rw [up1_ne (by omega)]; exact h3
  · rw [up1_ne (by decide)]; exact m1
  · rw [up1_ne (by decide)]; exact m3
  · rw [up1_ne (by decide)]; exact m4
  · rw [up1_ne (by decide)]; exact h5
theorem MW_reset {U u : gV} {t p : Nat} {b k z : Int32} {ro : List Nat} (h : MW U u t p b k z ro) : MS U (up1 (up1 u 0 27 0) 0 28 0) t p b k z [] ro := by
  obtain ⟨h1, h2, ⟨h3, h4, h4b, h4c, h4d⟩, h7, h9⟩ := h
  refine ⟨?_, ?_, ⟨?_, ?_, ?_, ?_, ?_⟩, ⟨?_, ?_, ?_⟩, ⟨trivial, trivial⟩, ?_⟩
  · intro j a0 a7 a15; rw [up1_ne a0, up1_ne a0]; exact h1 j a0 a7 a15
  · rw [up1_ne (by decide), up1_ne (by decide)]; exact h2
  · intro j hj; rw [up1_eq, upd_ne (by omega), up1_eq, upd_ne (by omega)]; exact h3 j hj
  · rw [up1_eq, upd_ne (by decide), up1_eq, upd_ne (by decide)]; exact h4
  · rw [up1_eq, upd_ne (by decide), up1_eq, upd_ne (by decide)]; exact h4b
  · rw [up1_eq, upd_ne (by decide), up1_eq, upd_ne (by decide)]; exact h4c
  · rw [up1_eq, upd_ne (by decide), up1_eq, upd_ne (by decide)]; exact h4d
  · rw [up1_eq, upd_ne (by decide), up1_eq']; rfl
  · rw [up1_eq']; rfl
  · rw [up1_eq, upd_ne (by decide), up1_eq, upd_ne (by decide)]; exact h7
  · rw [up1_ne (by decide), up1_ne (by decide)]; exact h9
theorem CS_end {V v : gV} {T : Nat → Nat} {q t p k : Nat} {ro : List Nat} {x : Int32} (ht : t < 6) (h : CS V v T q t p ro) : CS (up1 V (43 + t) k x) (up1 v (43 + t) k x) T q t p ro := by
  obtain ⟨⟨c1, c2, c3⟩, h2, h6, h7⟩ := h
  refine ⟨⟨?_, ?_, ?_⟩, ?_, ?_, ?_⟩
  · intro j a0 a1 a2
    by_cases e : j = 43 + t
    · rw [e, up1_eq, up1_eq, c1 (43 + t) (by omega) (by omega) (by omega)]
    · rw [up1_ne e, up1_ne e]; exact c1 j a0 a1 a2
  · rw [up1_ne (by omega), up1_ne (by omega)]; exact c2
  · rw [up1_ne (by omega)]; exact c3
  · rw [up1_ne (show 5 ≠ 43 + t by omega)]; exact h2
  · rw [up1_ne (by omega)]; exact h6
  · rw [up1_ne (by omega)]; exact h7
theorem t300 : ∀ a ∈ tkL, ∀ k, k < 3 → (nI a = nI (300 + k) ↔ a = 300 + k) := by decide
theorem partStep {V U v u : gV} {T : Nat → Nat} {q t p k : Nat} {b kk z : Int32} {ro : List Nat} (hA : AM V U T q t) (hk : k < 3) (hC : CS V v T q t p ro) (hMS : MW U u t p b kk z ro) (hp : p ≤ q) (hl : ro.length ≤ p) :
    (∃ (p' : Nat) (rc : List Nat) (v' u' : gV) (b' k' z' : Int32), (∀ n, fX3_readInto_21 (n + 1) v t (nI k) = fX3_readInto_21 n v' t (nI (k + 1))) ∧ (∀ n, fX6_text_26 (n + 1) u 1 (nI k) = fX6_text_26 n u' 1 (nI (k + 1))) ∧ CS (up1 V (43 + t) k (nI (rc ++ ro).length)) v' T q t p' (rc ++ ro) ∧ MS (up1 U 8 (4 * t + k) (nI ro.length)) u' t p' b' k' z' [] (rc ++ ro) ∧ (p' ≤ q ∧ p + rc.length ≤ p') ∧ coL rc ∧ hR rc 0 = some 1) ∨
    (∃ (pf : Nat) (v' u' : gV) (y : Int32), (∀ n, fX3_readInto_21 (n + 1) v t (nI k) = some (nI (bg T q pf), v')) ∧ (∀ n, fX6_text_26 (n + 2) u 1 (nI k) = fX6_text_101 u' 0) ∧ CX0 V v' t ∧ bg T q pf ≤ 160 ∧ MFw (up1 U 8 (4 * t + k) y) u' t (bg T q pf)) := by
  have hA' := hA
  obtain ⟨hV, hM, hU, ht6⟩ := hA
  have hq := hV.2.1
  have hin := tk_in T q p
  have hnx := nx_le (T := T) hp
  have hle := bg_le (T := T) hp
  have h3k : ¬ (3 : Int32) ≤ nI k := nI_nleL (x := 3) (a := 3) rfl rfl hk (by decide)
  obtain ⟨w, zw, w1, w2, w3⟩ := mNextW hMS hM hp
  have wk : w 0 23 = mtok (tk T q p) := w2.2.2.1.2.2.2.1
  have wz : w 0 24 = zw := w2.2.2.1.2.2.2.2
  have g24 : gin (4 * nI t + nI k) 24 = true := by rw [nI_4k]; exact gin_nI (by omega) (by decide)
  have w11 : w 0 11 = nI t := (w2.2.2.1.1 11 (by decide)).trans hU
  have w29 : w 0 29 = nI ro.length := w2.2.2.2.1
  have stop : ∀ (x : gV) n, fX6_text_94 (fX6_text_26 (n + 1)) x (nI k) 0 = fX6_text_101 x 0 := by
    intro x n
    unfold fX6_text_94
    rw [fX6_text_26, if_pos rfl, ite_same]
  have e8 : up1 w 8 (4 * nI t + nI k).toNatClampNeg (w 0 29) = up1 w 8 (4 * t + k) (nI ro.length) := by rw [nI_4k, nI_clamp (by omega), w29]
  by_cases c : tk T q p = 300 + k
  · have hmk : mtok (tk T q p) = 3 := (mk_3 _ hin).mpr (by omega)
    have hlt := tk_0 (T := T) (q := q) (p := p) (by omega)
    have hz : zw = nI k := w3.2.1 k hk c
    obtain ⟨v2, s2, C2⟩ := cNext hC hV ht6 hp
    have A1 : AM V (up1 U 8 (4 * t + k) (nI ro.length)) T q t := by
      refine ⟨hV, ⟨?_, hM.2.1, ?_, ?_⟩, ?_, ht6⟩
      · rw [up1_ne (by decide)]; exact hM.1
      · rw [up1_ne (by decide)]; exact hM.2.2.1
      · rw [up1_ne (by decide)]; exact hM.2.2.2
      · rw [up1_ne (by decide)]; exact hU
    have M2 := MW_reset (MW_up8 (i := 4 * t + k) (x := nI ro.length) w2)
    obtain ⟨y, v3, e3, r3⟩ := ((rdAll A1 64 0 (by decide)).2 0 (by decide) (by decide)) v2 _ 2000 (nx T q p) [] ro _ _ _ 1 C2 M2 hnx.2.1 (by omega) (by show 0 + ro.length ≤ _; omega) rfl (by decide) (fun _ => rfl) (fun x => absurd x (by decide))
    have tx : ∀ n, fX6_text_26 (n + 1) u 1 (nI k) = gB (fX6_eRead_14 2000 (up1 (up1 (up1 w 8 (4 * t + k) (nI ro.length)) 0 27 0) 0 28 0) 1 1) (fun y7 v8 => if y7 = 0 then fX6_text_93 (fX6_text_26 n) v8 (nI k) else fX6_text_94 (fX6_text_26 n) v8 (nI k) 1) := by
      intro n
      rw [fX6_text_26, if_neg h3k, if_neg ne10, w1, gB_some, wk, if_pos hmk, wz, if_pos hz]
      unfold fX6_text_60
      rw [w11, if_pos g24, if_neg ne10, e8]
      rfl
    have cx : ∀ n, fX3_readInto_21 (n + 1) v t (nI k) = gB (fX3_rd 64 0 v2 0) (fun y7 v8 => if y7 = 0 then some (v8 5 3, v8) else if v8 5 4 = 59 then gB (fX3_step v8) (fun y10 v11 => gB (fX4_endPart v11 t (nI k)) (fun y13 v14 => fX3_readInto_21 n v14 t (nI k + 1))) else some (v8 5 3, v8)) := by
      intro n
      rw [fX3_readInto_21, if_neg h3k, hC.2.1.2.2.1, show (300 : Int32) = nI 300 from rfl, nI_add, if_pos ((t300 _ hin k hk).mpr c), s2, gB_some]
    rw [show (nI 0 : Int32) = 0 from rfl] at e3
    rcases r3 with ⟨rfl, p2, f2, rc, H1, rc1, u3, b2', k2, z2, mn2, ⟨L1, L2⟩, C3, M3, R3, P3, G3, O3, D3, T3⟩ | ⟨rfl, pf, hCF, u3, hL, hF⟩
    · have hin2 := tk_in T q p2
      have hlr : rc.length = H1.length + rc1.length := by rw [R3, List.length_append, List.length_reverse]
      have hlo : (rc1 ++ ro).length = rc1.length + ro.length := List.length_append
      have hlo2 : (rc ++ ro).length = rc.length + ro.length := List.length_append
      have hle2 := bg_le (T := T) P3.2.1
      have hnx2 := nx_le (T := T) P3.2.1
      obtain ⟨n2, rfl⟩ : ∃ n2, f2 = n2 + 1 := ⟨f2 - 1, by omega⟩
      by_cases c59 : tk T q p2 = 59
      · obtain ⟨v4, s4, C4⟩ := cNext C3 hV ht6 P3.2.1
        obtain ⟨u4, b4, k4, z4, e5, M5⟩ := lpSemi (n := n2) (mn := mn2) ht6 A1.2.2.1 A1.2.1 P3.2.1 M3 c59 G3 (by omega)
        rw [← List.append_assoc, ← R3] at M5
        refine Or.inl ⟨nx T q p2, rc, _, u4, b4, k4, z4, fun n => ?_, fun n => ?_, CS_end (k := k) (x := nI (rc ++ ro).length) ht6 C4, M5, ⟨hnx2.2.1, by omega⟩, O3, D3 0 (by decide)⟩
        · rw [cx n, e3, gB_some, if_neg ne10, C3.2.1.2.2.1, if_pos ((t59 _ hin2).mpr c59), s4, gB_some]
          unfold fX4_endPart
          rw [if_neg (nI_pos (by omega)), if_neg h3k, if_pos (gin_nI hk (by decide)), gB_some, nI_clamp (by omega), C4.2.2.1, nI_1]
        · rw [tx n, L1, e5, gB_some, if_neg ne10]
          unfold fX6_text_94
          rw [nI_1]
      · obtain ⟨u4, e5, F5⟩ := stuckT (n := n2) (mn := mn2) A1 P3.2.1 M3 G3 T3 c59 (by omega)
        refine Or.inr ⟨p2, v3, u4, nI ro.length, fun n => ?_, fun n => ?_, C3.1, by omega, MF_w F5⟩
        · rw [cx n, e3, gB_some, if_neg ne10, C3.2.1.2.2.1, if_neg (fun x => c59 ((t59 _ hin2).mp x)), C3.2.1.2.1]
        · rw [tx (n + 1), L1, e5, gB_some, if_pos rfl]
          unfold fX6_text_93
          exact stop _ _
    · refine Or.inr ⟨pf, v3, u3, nI ro.length, fun n => ?_, fun n => ?_, hCF.1, ?_, MF_w hF⟩
      · rw [cx n, e3, gB_some, if_pos rfl, hCF.2.1]
      · rw [tx (n + 1), hL, gB_some, if_pos rfl]
        unfold fX6_text_93
        exact stop _ _
      · exact hCF.2.2.choose_spec.1.2
  · refine Or.inr ⟨p, v, up1 w 8 (4 * t + k) (nI ro.length), nI ro.length, fun n => ?_, fun n => ?_, hC.1, by omega, _, _, _, _, MW_up8 w2⟩
    · rw [fX3_readInto_21, if_neg h3k, hC.2.1.2.2.1, show (300 : Int32) = nI 300 from rfl, nI_add, if_neg (fun x => c ((t300 _ hin k hk).mp x)), hC.2.1.2.1]
    · have fin : fX6_text_60 (fX6_text_26 (n + 1)) w (nI k) 0 = fX6_text_101 (up1 w 8 (4 * t + k) (nI ro.length)) 0 := by
        unfold fX6_text_60
        rw [w11, if_pos g24, if_pos rfl, e8]
        unfold fX6_text_93
        exact stop _ _
      rw [fX6_text_26, if_neg h3k, if_neg ne10, w1, gB_some, wk]
      unfold fX6_text_59
      by_cases d : mtok (tk T q p) = 3
      · rw [if_pos d, wz, if_neg (fun x => ?_), fin]
        have d3 := (mk_3 _ hin).mp d
        have hz : zw = nI (tk T q p - 300) := w3.2.1 _ (by omega) (by omega)
        rw [hz] at x
        have := (nI_eq (a := tk T q p - 300) (b := k) (by omega) (by omega)).mp x
        omega
      · rw [if_neg d, fin]
