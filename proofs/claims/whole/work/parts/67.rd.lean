/-! each level of the language -/
theorem r0 {v : gV} : (if (0 : Int32) = 0 ∨ (0 : Int32) = 1 then some ((0 : Int32), v) else none) = some (0, v) := rfl
theorem r1 {v : gV} : (if (1 : Int32) = 0 ∨ (1 : Int32) = 1 then some ((1 : Int32), v) else none) = some (1, v) := rfl
theorem t42 : ∀ a ∈ tkL, (nI a = 42 ↔ rk (sgn a) = rt 4) := by decide
theorem t42e : ∀ a ∈ tkL, rk (sgn a) = rt 4 → nI (mEnc (sgn a)) = 20002 := by decide
theorem t304 : ∀ a ∈ tkL, (nI a = 304 ↔ rk (sgn a) = rt 1) := by decide
theorem t304e : ∀ a ∈ tkL, rk (sgn a) = rt 1 → nI (mEnc (sgn a)) = 20007 := by decide
theorem t303 : ∀ a ∈ tkL, (nI a = 303 ↔ rk (sgn a) = rt 0) := by decide
theorem t303e : ∀ a ∈ tkL, rk (sgn a) = rt 0 → nI (mEnc (sgn a)) = 20008 := by decide
theorem t43 : ∀ a ∈ tkL, rk (sgn a) ≠ rt 3 → ¬ nI a = 43 ∧ ¬ nI a = 45 := by decide
theorem t43e : ∀ a ∈ tkL, rk (sgn a) = rt 3 → (nI a = 43 ∧ nI (mEnc (sgn a)) = 20003) ∨ (¬ nI a = 43 ∧ nI a = 45 ∧ nI (mEnc (sgn a)) = 20004) := by decide
theorem n160 {i : Nat} (h : i < 160) : ¬ (160 : Int32) ≤ nI i := nI_nleL (x := 160) (a := 160) rfl rfl h (by decide)
theorem lvTerm {V U : gV} {T : Nat → Nat} {q t o : Nat} {R : Nat → gV → Int32 → Option (Int32 × gV)} (hA : AM V U T q t) (h : J V U T q t (R 5) 5 o) : J V U T q t (fX3_readTerm R) 4 o :=
  lvl (F := R 5) (L := fX3_readTerm_8 R) (g := 4) hA (by decide) h
    (fun n v x x3 => by
      rw [fX3_readTerm_8, if_pos rfl, r0, ite_same])
    (fun n v x x3 a ha e hn => by
      rw [fX3_readTerm_8, e, if_neg ne10, if_neg (fun z => hn ((t42 a ha).mp z)), r1, ite_same])
    (fun n v x i a hi ha e hr => by
      rw [fX3_readTerm_8, if_neg (n160 hi), if_neg ne10, e, if_pos ((t42 a ha).mpr hr), t42e a ha hr])
theorem lvAnd {V U : gV} {T : Nat → Nat} {q t o : Nat} {R : Nat → gV → Int32 → Option (Int32 × gV)} (hA : AM V U T q t) (h : J V U T q t (R 2) 2 o) : J V U T q t (fX3_readAnd R) 1 o :=
  lvl (F := R 2) (L := fX3_readAnd_8 R) (g := 1) hA (by decide) h
    (fun n v x x3 => by
      rw [fX3_readAnd_8, if_pos rfl, r0, ite_same])
    (fun n v x x3 a ha e hn => by
      rw [fX3_readAnd_8, e, if_neg ne10, if_neg (fun z => hn ((t304 a ha).mp z)), r1, ite_same])
    (fun n v x i a hi ha e hr => by
      rw [fX3_readAnd_8, if_neg (n160 hi), if_neg ne10, e, if_pos ((t304 a ha).mpr hr), t304e a ha hr])
theorem lvOr {V U : gV} {T : Nat → Nat} {q t o : Nat} {R : Nat → gV → Int32 → Option (Int32 × gV)} (hA : AM V U T q t) (h : J V U T q t (R 1) 1 o) : J V U T q t (fX3_readOr R) 0 o :=
  lvl (F := R 1) (L := fX3_readOr_8 R) (g := 0) hA (by decide) h
    (fun n v x x3 => by
      rw [fX3_readOr_8, if_pos rfl, r0, ite_same])
    (fun n v x x3 a ha e hn => by
      rw [fX3_readOr_8, e, if_neg ne10, if_neg (fun z => hn ((t303 a ha).mp z)), r1, ite_same])
    (fun n v x i a hi ha e hr => by
      rw [fX3_readOr_8, if_neg (n160 hi), if_neg ne10, e, if_pos ((t303 a ha).mpr hr), t303e a ha hr])
theorem lvSum {V U : gV} {T : Nat → Nat} {q t o : Nat} {R : Nat → gV → Int32 → Option (Int32 × gV)} (hA : AM V U T q t) (h : J V U T q t (R 4) 4 o) : J V U T q t (fX3_readSum R) 3 o :=
  lvl (F := R 4) (L := fX3_readSum_8 R) (g := 3) hA (by decide) h
    (fun n v x x3 => by
      rw [fX3_readSum_8, if_pos rfl, r0, ite_same])
    (fun n v x x3 a ha e hn => by
      obtain ⟨h1, h2⟩ := t43 a ha hn
      rw [fX3_readSum_8, e, if_neg ne10, if_neg h1, if_neg h2, r1, ite_same])
    (fun n v x i a hi ha e hr => by
      rcases t43e a ha hr with ⟨h1, h2⟩ | ⟨h1, h2, h3⟩
      · rw [fX3_readSum_8, if_neg (n160 hi), if_neg ne10, e, if_pos h1, h2]
        unfold fX3_readSum_37 fX3_readSum_55
        rw [e, if_pos h1]
      · rw [fX3_readSum_8, if_neg (n160 hi), if_neg ne10, e, if_neg h1, if_pos h2, h3]
        unfold fX3_readSum_37 fX3_readSum_55
        rw [e, if_neg h1])
theorem t60 : ∀ a ∈ tkL, rk (sgn a) ≠ 4 → ¬ nI a = 60 ∧ ¬ nI a = 61 := by decide
theorem t60e : ∀ a ∈ tkL, rk (sgn a) = 4 → (sgn a ≠ 0 ∧ a ≠ 0 ∧ ¬ sgn a ≤ 12) ∧ ((nI a = 60 ∧ nI (mEnc (sgn a)) = 20005) ∨ (¬ nI a = 60 ∧ nI a = 61 ∧ nI (mEnc (sgn a)) = 20006)) := by decide
theorem t305 : ∀ a ∈ tkL, (nI a = 305 ↔ a = 305) := by decide
theorem dp_o {g o : Nat} (ho : o < 5) : dp g (o + 1) ≤ dp g o := by
  unfold dp
  omega
theorem dp_23 {o : Nat} : dp 2 o = dp 3 o + 1 := dp_up (show 2 ≤ 4 by decide)
theorem lvNot {V U : gV} {T : Nat → Nat} {q t o : Nat} {R : Nat → gV → Int32 → Option (Int32 × gV)} (hA : AM V U T q t) (ho : o ≤ 5) (h3 : J V U T q t (R 3) 3 o) (h2 : o < 5 → J V U T q t (R 2) 2 (o + 1)) : J V U T q t (fX3_readNot R) 2 o := by
  obtain ⟨hV, hM, hU, ht6⟩ := hA
  have hq := hV.2.1
  intro v u f p H ro b k z mn hC hMS hp hf hl hc ht hm hm3
  have hmn := hm (by decide)
  subst hmn
  have hin := tk_in T q p
  have hnx := nx_le (T := T) hp
  have hle := bg_le (T := T) hp
  have e4 := hC.2.1.2.2.1
  obtain ⟨n', rfl⟩ : ∃ n', f = n' + 1 := ⟨f - 1, by omega⟩
  unfold fX3_readNot
  rw [e4]
  by_cases c : tk T q p = 305
  · rw [if_pos ((t305 _ hin).mpr c)]
    have hlt := tk_0 (T := T) (q := q) (p := p) (by omega)
    rcases lpNot (n := n') hM hp hMS c (by omega) (by omega) with ⟨c5, u2, b', k', z', e2, M2⟩ | ⟨c5, u2, e2, F2⟩
    · rw [if_pos (nI_yltL (y := 5) (b := 5) rfl rfl (by omega) (by decide)), e2]
      obtain ⟨v2, s2, C2⟩ := cNext hC hV ht6 hp
      obtain ⟨y, v3, e3, r3⟩ := h2 (by omega) v2 u2 n' (nx T q p) (13 :: H) ro b' k' z' 1 C2 M2 hnx.2.1 (by omega) (by rw [List.length_cons]; omega) (by
        show 1 + cn H = o + 1
        omega) (by show rk 13 < hb 2; decide) (fun _ => rfl) (fun w => absurd w (by decide))
      rw [s2, gB_some, nI_1, e3, gB_some]
      rcases r3 with ⟨rfl, p2, f2, rc', H1', rc1', u3, b2', k2, z2, mn2, ⟨L1, L2⟩, C3, M3, R3, P3, G3, O3, D3, T3⟩ | ⟨rfl, pf, hCF, hrest⟩
      · have hlr' : rc'.length = H1'.length + rc1'.length := by rw [R3, List.length_append, List.length_reverse]
        have hlo3 : (rc' ++ ro).length = rc'.length + ro.length := List.length_append
        obtain ⟨v4, s4, C4⟩ := cEmit (c := 13) (x := 20001) C3 ht6 (by omega) rfl
        rw [s4, gB_some, r1, L1]
        exact ⟨1, v4, rfl, Or.inl ⟨rfl, p2, f2, 13 :: rc', H1' ++ [13], rc1', u3, b2', k2, z2, mn2, ⟨rfl, L2⟩, C4, by rw [List.append_assoc]; exact M3, by rw [R3, List.reverse_append]; rfl, ⟨by omega, P3.2.1, by rw [List.length_cons]; omega⟩, ge_app.mpr ⟨G3, by decide, trivial⟩, ⟨Or.inr (Or.inl rfl), O3⟩, fun h hh' => by
            show (hR rc' h).bind (sT 13) = _
            rw [D3 h (by have := dp_o (g := 2) (show o < 5 by omega); omega)]
            exact sT_un (Or.inl rfl), PT_app T3⟩⟩
      · obtain ⟨v4, s4, C4⟩ := cEmitF (x := 20001) hCF ht6
        rw [s4, gB_some, r0]
        exact ⟨0, v4, rfl, Or.inr ⟨rfl, pf, C4, hrest⟩⟩
    · rw [if_neg (nI_nltL (y := 5) (b := 5) rfl rfl (by omega) (by omega)), e2]
      exact ⟨0, v, rfl, Or.inr ⟨rfl, p, CS_CF hC (by omega), u2, rfl, F2⟩⟩
  · rw [if_neg (fun z => c ((t305 _ hin).mp z))]
    obtain ⟨y, v', e, r⟩ := h3 v u (n' + 1) p H ro b k z 1 hC hMS hp hf hl hc (Nat.lt_of_lt_of_le ht (by decide)) (fun w => absurd w (by decide)) (fun _ => Or.inr c)
    rw [e, gB_some]
    rcases r with ⟨rfl, p2, f2, rc, H1, rc1, u2, b2, k2, z2, mn2, ⟨L1, L2⟩, C3, M3, R3, P3, G3, O3, D3, T3⟩ | ⟨rfl, F3⟩
    · have hin2 := tk_in T q p2
      have hnx2 := nx_le (T := T) P3.2.1
      have hle2 := bg_le (T := T) P3.2.1
      have hlr : rc.length = H1.length + rc1.length := by rw [R3, List.length_append, List.length_reverse]
      have hlo : (rc1 ++ ro).length = rc1.length + ro.length := List.length_append
      have hlo2 : (rc ++ ro).length = rc.length + ro.length := List.length_append
      rw [if_neg ne10, C3.2.1.2.2.1, L1]
      by_cases d : rk (sgn (tk T q p2)) = 4
      · obtain ⟨⟨d1, d2, d3⟩, d4⟩ := t60e _ hin2 d
        have hbi := sgn_bi _ hin2 d1
        have hlt := tk_0 d2
        obtain ⟨n2, rfl⟩ : ∃ n2, f2 = n2 + 1 := ⟨f2 - 1, by omega⟩
        rcases lpOp (n := n2) (mn := mn2) (r := 5) ht6 hU hM P3.2.1 M3 d1 (by rw [if_pos d]) G3 (Nat.lt_of_lt_of_le ht (by decide)) (by omega) with ⟨-, u4, b', k', z', e2, M4⟩ | ⟨⟨-, a⟩, -⟩
        · obtain ⟨v2, s2, C2⟩ := cNext C3 hV ht6 P3.2.1
          rw [← List.append_assoc, ← R3] at M4
          rw [if_neg d3] at e2
          obtain ⟨y, v3, e3, r3⟩ := h3 v2 u4 n2 (nx T q p2) (sgn (tk T q p2) :: H) (rc ++ ro) b' k' z' 0 C2 M4 hnx2.2.1 (by omega) (by rw [List.length_cons]; omega) (by
            show (if sgn (tk T q p2) = 0 ∨ sgn (tk T q p2) = 13 ∨ sgn (tk T q p2) = 19 then 1 else 0) + cn H = o
            rw [if_neg (by unfold isBi at hbi; omega), Nat.zero_add]; exact hc) (by show rk (sgn (tk T q p2)) < _; rw [d]; decide) (fun w => absurd w (by decide)) (fun _ => Or.inl rfl)
          have key : ∀ s0 : Int32, s0 = nI (mEnc (sgn (tk T q p2))) → fX3_readNot_84 R v' (nI o) s0 = gB (fX3_emit v3 (nI (mEnc (sgn (tk T q p2))))) (fun _ v20 => if y = 0 ∨ y = 1 then some (y, v20) else none) := by
            intro s0 es
            unfold fX3_readNot_84
            rw [s2, gB_some, e3, gB_some, es]
          have key2 : (if nI (tk T q p2) = 60 then fX3_readNot_66 R v' (nI o) else if nI (tk T q p2) = 61 then fX3_readNot_66 R v' (nI o) else if (1 : Int32) = 0 ∨ (1 : Int32) = 1 then some (1, v') else none) = gB (fX3_emit v3 (nI (mEnc (sgn (tk T q p2))))) (fun _ v20 => if y = 0 ∨ y = 1 then some (y, v20) else none) := by
            rcases d4 with ⟨x1, x2⟩ | ⟨x1, x2, x3⟩
            · unfold fX3_readNot_66
              rw [if_pos x1, C3.2.1.2.2.1, if_pos x1]
              exact key _ x2.symm
            · unfold fX3_readNot_66
              rw [if_neg x1, if_pos x2, C3.2.1.2.2.1, if_neg x1]
              exact key _ x3.symm
          rw [key2, e2]
          rcases r3 with ⟨rfl, p5, f5, rc', H1', rc1', u3, b2', k2, z2, mn2, ⟨L3, L4⟩, C5, M5, R5, P5, G5, O5, D5, T5⟩ | ⟨rfl, pf, hCF, hrest⟩
          · have hlr' : rc'.length = H1'.length + rc1'.length := by rw [R5, List.length_append, List.length_reverse]
            have hlo3 : (rc' ++ (rc ++ ro)).length = rc'.length + (rc.length + ro.length) := by rw [List.length_append, List.length_append]
            obtain ⟨v4, s4, C4⟩ := cEmit (c := sgn (tk T q p2)) C5 ht6 (by omega) rfl
            rw [s4, gB_some, r1, L3]
            exact ⟨1, v4, rfl, Or.inl ⟨rfl, p5, f5, sgn (tk T q p2) :: (rc' ++ rc), H1' ++ [sgn (tk T q p2)], rc1' ++ rc, u3, b2', k2, z2, mn2, ⟨rfl, L4⟩, by rw [List.cons_append, List.append_assoc]; exact C4, by rw [List.append_assoc, List.append_assoc]; exact M5, by rw [R5, List.reverse_append, List.append_assoc]; rfl, ⟨by omega, P5.2.1, by rw [List.length_cons, List.length_append]; omega⟩, ge_app.mpr ⟨ge_mono (by decide) G5, by rw [d]; decide, trivial⟩, ⟨Or.inr (Or.inr (Or.inr hbi)), coL_app O5 O3⟩, fun h hh' => by
                show (hR (rc' ++ rc) h).bind (sT (sgn (tk T q p2))) = _
                rw [dp_23] at hh'
                rw [hR_app, D3 h (by omega)]
                show (hR rc' (h + 1)).bind (sT (sgn (tk T q p2))) = _
                rw [D5 (h + 1) (by omega)]
                exact sT_bi hbi, fun _ => T5.1 (by decide), fun _ => T5.2.1 (by decide), fun _ _ => ⟨H1', _, [], rfl, G5, d⟩, fun w => absurd w (by decide), fun w => absurd w (by decide)⟩⟩
          · obtain ⟨v4, s4, C4⟩ := cEmitF (x := nI (mEnc (sgn (tk T q p2)))) hCF ht6
            rw [s4, gB_some, r0]
            exact ⟨0, v4, rfl, Or.inr ⟨rfl, pf, C4, hrest⟩⟩
        · have : hb 2 = 4 := rfl
          omega
      · obtain ⟨x1, x2⟩ := t60 _ hin2 d
        rw [if_neg x1, if_neg x2, r1]
        exact ⟨1, v', rfl, Or.inl ⟨rfl, p2, f2, rc, H1, rc1, u2, b2, k2, z2, mn2, ⟨rfl, L2⟩, C3, M3, R3, P3, ge_mono (by decide) G3, O3, fun h hh => D3 h (by rw [dp_23] at hh; omega), fun _ => T3.1 (by decide), fun _ => T3.2.1 (by decide), fun _ w => absurd w d, fun w => absurd w (by decide), fun w => absurd w (by decide)⟩⟩
    · rw [if_pos rfl, r0]
      exact ⟨0, v', rfl, Or.inr ⟨rfl, F3⟩⟩
