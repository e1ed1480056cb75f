/-! levels with a sign between two, again and again -/
theorem binS : ∀ g ∈ ([0, 1, 3, 4] : List Nat), ∀ a ∈ tkL, rk (sgn a) = rt g → sgn a ≠ 0 ∧ a ≠ 0 ∧ (g ≤ 1 → sgn a ≤ 12) ∧ (3 ≤ g → ¬ sgn a ≤ 12) ∧ rk (sgn a) ≠ 4 := by decide
theorem binG : ∀ g ∈ ([0, 1, 3, 4] : List Nat), rt g < hb (g + 1) ∧ rt g = hb g ∧ rt g ≤ rt (g + 1) ∧ rt g ≠ 4 ∧ g ≤ 4 ∧ (g + 1 ≤ 2 → g ≤ 1) ∧ (3 ≤ g + 1 → 3 ≤ g) ∧ hb g ≤ hb (g + 1) := by decide
theorem PT_dn {g s : Nat} {H : List Nat} (hg : g ∈ ([0, 1, 3, 4] : List Nat)) (h : PT (g + 1) s H) (hn : rk s ≠ rt g) : PT g s H := by
  have : g = 0 ∨ g = 1 ∨ g = 3 ∨ g = 4 := by simpa using hg
  rcases this with rfl | rfl | rfl | rfl
  · exact ⟨fun _ => h.1 (by decide), fun _ => h.2.1 (by decide), fun _ => h.2.2.1 (by decide), fun _ => h.2.2.2.1 (by decide), fun _ => hn⟩
  · exact ⟨fun _ => h.1 (by decide), fun _ => h.2.1 (by decide), fun _ => h.2.2.1 (by decide), fun _ => hn, fun z => absurd z (by decide)⟩
  · exact ⟨fun _ => h.1 (by decide), fun _ => hn, fun z => absurd z (by decide), fun z => absurd z (by decide), fun z => absurd z (by decide)⟩
  · exact ⟨fun _ => hn, fun z => absurd z (by decide), fun z => absurd z (by decide), fun z => absurd z (by decide), fun z => absurd z (by decide)⟩
theorem PT_app {g s : Nat} {H B : List Nat} (h : PT g s H) : PT g s (H ++ B) := ⟨h.1, h.2.1, fun a b => blk_app (h.2.2.1 a b), h.2.2.2⟩
theorem dp_up {g o : Nat} (hg : g ≤ 4) : dp g o = dp (g + 1) o + 1 := by
  unfold dp
  omega
theorem binL {V U : gV} {T : Nat → Nat} {q t g o p : Nat} {H ro : List Nat} {F : gV → Int32 → Option (Int32 × gV)} {L : Nat → gV → Int32 → Int32 → Int32 → Option (Int32 × gV)} (hA : AM V U T q t) (hg : g ∈ ([0, 1, 3, 4] : List Nat)) (hJ : J V U T q t F (g + 1) o)
    (hL0 : ∀ n v x x3, L (n + 1) v x 0 x3 = some (0, v))
    (hLno : ∀ n v x x3 a, a ∈ tkL → v 5 4 = nI a → rk (sgn a) ≠ rt g → L (n + 1) v x 1 x3 = some (1, v))
    (hLop : ∀ n v x i a, i < 160 → a ∈ tkL → v 5 4 = nI a → rk (sgn a) = rt g → L (n + 1) v x 1 (nI i) = gB (fX3_step v) (fun _ v5 => gB (F v5 x) (fun y7 v8 => gB (fX3_emit v8 (nI (mEnc (sgn a)))) (fun _ v11 => L n v11 x y7 (nI i + 1)))))
    (hl : H.length + ro.length ≤ p) (hc : cn H = o) (ht : tr H < hb g) :
    ∀ (m p' f' : Nat) (rc H1 rc1 : List Nat) (v' u' : gV) (i fuel : Nat) (b k z mn : Int32), q ≤ p' + m → m + 1 < fuel → i ≤ p' → 1000 ≤ f' + p' → CS V v' T q t p' (rc ++ ro) → MS U u' t p' b k z (H1 ++ H) (rc1 ++ ro) → rc = H1.reverse ++ rc1 → (p < p' ∧ p' ≤ q ∧ p + rc.length ≤ p') → ge (rt g) H1 → coL rc → (∀ h, h + dp g o ≤ 40 → hR rc h = some (h + 1)) → PT (g + 1) (sgn (tk T q p')) H1 → ∃ y w, L fuel v' (nI o) 1 (nI i) = some (y, w) ∧ ((y = 1 ∧ OK V U T q t g o p H ro w (fX6_eRead_14 f' u' 0 mn) (PT g)) ∨ (y = 0 ∧ FL V U T q t w (fX6_eRead_14 f' u' 0 mn))) := by
  obtain ⟨hV, hM, hU, ht6⟩ := hA
  obtain ⟨g1, g2, g3, g4, g5, g6, g7, g8⟩ := binG g hg
  have hq := hV.2.1
  intro m
  induction m with
  | zero =>
    intro p' f' rc H1 rc1 v' u' i fuel b k z mn hqm hf hi hfu hC hMS hrc hpp hge hco hh hP
    obtain ⟨n, rfl⟩ : ∃ n, fuel = n + 1 := ⟨fuel - 1, by omega⟩
    have hno : rk (sgn (tk T q p')) ≠ rt g := fun e => by
      have := tk_0 (binS g hg _ (tk_in T q p') e).2.1
      have := (bg_le (T := T) hpp.2.1).1
      omega
    exact ⟨1, v', hLno n v' _ _ _ (tk_in T q p') hC.2.1.2.2.1 hno, Or.inl ⟨rfl, p', f', rc, H1, rc1, u', b, k, z, mn, ⟨rfl, hfu⟩, hC, hMS, hrc, hpp, hge, hco, hh, PT_dn hg hP hno⟩⟩
  | succ m ih =>
    intro p' f' rc H1 rc1 v' u' i fuel b k z mn hqm hf hi hfu hC hMS hrc hpp hge hco hh hP
    obtain ⟨n, rfl⟩ : ∃ n, fuel = n + 1 := ⟨fuel - 1, by omega⟩
    by_cases c : rk (sgn (tk T q p')) = rt g
    · obtain ⟨b1, b2, b3, b4, b5⟩ := binS g hg _ (tk_in T q p') c
      have hbi := sgn_bi _ (tk_in T q p') b1
      have hlt := tk_0 b2
      have hle := bg_le (T := T) hpp.2.1
      have hnx := nx_le (T := T) hpp.2.1
      obtain ⟨n', rfl⟩ : ∃ n', f' = n' + 1 := ⟨f' - 1, by omega⟩
      have hlr : rc.length = H1.length + rc1.length := by rw [hrc, List.length_append, List.length_reverse]
      have hlo : (rc1 ++ ro).length = rc1.length + ro.length := List.length_append
      have hlo2 : (rc ++ ro).length = rc.length + ro.length := List.length_append
      rcases lpOp (n := n') (mn := mn) (r := rt g) ht6 hU hM hpp.2.1 hMS b1 (by rw [if_neg b5]; exact c.symm) hge (by omega) (by omega) with ⟨-, u2, b', k', z', e2, M2⟩ | ⟨⟨a, -⟩, -⟩
      · obtain ⟨v2, s2, C2⟩ := cNext hC hV ht6 hpp.2.1
        rw [← List.append_assoc, ← hrc] at M2
        obtain ⟨y, v3, e3, r3⟩ := hJ v2 u2 n' (nx T q p') (sgn (tk T q p') :: H) (rc ++ ro) b' k' z' (if sgn (tk T q p') ≤ 12 then 1 else 0) C2 M2 hnx.2.1 (by omega) (by rw [List.length_cons]; omega) (by
          show (if sgn (tk T q p') = 0 ∨ sgn (tk T q p') = 13 ∨ sgn (tk T q p') = 19 then 1 else 0) + cn H = o
          rw [if_neg (by unfold isBi at hbi; omega), Nat.zero_add]; exact hc) (by show rk (sgn (tk T q p')) < _; omega) (fun w => if_pos (b3 (g6 w))) (fun w => Or.inl (if_neg (b4 (g7 w))))
        rw [hLop n v' _ i _ (by omega) (tk_in T q p') hC.2.1.2.2.1 c, s2, gB_some, e3, gB_some, e2]
        rcases r3 with ⟨rfl, p2, f2, rc', H1', rc1', u3, b2', k2, z2, mn2, ⟨L1, L2⟩, C3, M3, R3, P3, G3, O3, D3, T3⟩ | ⟨rfl, F3⟩
        · have hlr' : rc'.length = H1'.length + rc1'.length := by rw [R3, List.length_append, List.length_reverse]
          have hlo3 : (rc' ++ (rc ++ ro)).length = rc'.length + (rc.length + ro.length) := by rw [List.length_append, List.length_append]
          obtain ⟨v4, s4, C4⟩ := cEmit (c := sgn (tk T q p')) C3 ht6 (by omega) rfl
          rw [s4, gB_some, nI_1, L1]
          obtain ⟨y5, w5, e5, r5⟩ := ih p2 f2 (sgn (tk T q p') :: (rc' ++ rc)) (H1' ++ [sgn (tk T q p')]) (rc1' ++ rc) v4 u3 (i + 1) n b2' k2 z2 mn2 (by omega) (by omega) (by omega) L2 (by rw [List.cons_append, List.append_assoc]; exact C4) (by rw [List.append_assoc, List.append_assoc]; exact M3) (by rw [R3, List.reverse_append, List.append_assoc]; rfl) ⟨by omega, P3.2.1, by rw [List.length_cons, List.length_append]; omega⟩ (ge_app.mpr ⟨ge_mono g3 G3, by omega, trivial⟩) ⟨Or.inr (Or.inr (Or.inr hbi)), coL_app O3 hco⟩ (fun h hh' => by
            show (hR (rc' ++ rc) h).bind (sT (sgn (tk T q p'))) = _
            rw [hR_app, hh h hh']
            show (hR rc' (h + 1)).bind (sT (sgn (tk T q p'))) = _
            rw [D3 (h + 1) (by rw [dp_up g5] at hh'; omega)]
            exact sT_bi hbi) (PT_app T3)
          exact ⟨y5, w5, e5, r5⟩
        · obtain ⟨pf, hCF, hrest⟩ := F3
          obtain ⟨v4, s4, C4⟩ := cEmitF (x := nI (mEnc (sgn (tk T q p')))) hCF ht6
          rw [s4, gB_some]
          obtain ⟨n2, rfl⟩ : ∃ n2, n = n2 + 1 := ⟨n - 1, by omega⟩
          exact ⟨0, v4, hL0 n2 v4 _ _, Or.inr ⟨rfl, pf, C4, hrest⟩⟩
      · exact absurd a b5
    · exact ⟨1, v', hLno n v' _ _ _ (tk_in T q p') hC.2.1.2.2.1 c, Or.inl ⟨rfl, p', f', rc, H1, rc1, u', b, k, z, mn, ⟨rfl, hfu⟩, hC, hMS, hrc, hpp, hge, hco, hh, PT_dn hg hP c⟩⟩
theorem lvl {V U : gV} {T : Nat → Nat} {q t g o : Nat} {F : gV → Int32 → Option (Int32 × gV)} {L : Nat → gV → Int32 → Int32 → Int32 → Option (Int32 × gV)} (hA : AM V U T q t) (hg : g ∈ ([0, 1, 3, 4] : List Nat)) (hJ : J V U T q t F (g + 1) o)
    (hL0 : ∀ n v x x3, L (n + 1) v x 0 x3 = some (0, v))
    (hLno : ∀ n v x x3 a, a ∈ tkL → v 5 4 = nI a → rk (sgn a) ≠ rt g → L (n + 1) v x 1 x3 = some (1, v))
    (hLop : ∀ n v x i a, i < 160 → a ∈ tkL → v 5 4 = nI a → rk (sgn a) = rt g → L (n + 1) v x 1 (nI i) = gB (fX3_step v) (fun _ v5 => gB (F v5 x) (fun y7 v8 => gB (fX3_emit v8 (nI (mEnc (sgn a)))) (fun _ v11 => L n v11 x y7 (nI i + 1))))) :
    J V U T q t (fun v x => gB (F v x) (fun y1 v2 => L 2000 v2 x y1 0)) g o := by
  obtain ⟨g1, g2, g3, g4, g5, g6, g7, g8⟩ := binG g hg
  have hq := hA.1.2.1
  intro v u f p H ro b k z mn hC hM hp hf hl hc ht hm hm3
  have hm' : g + 1 ≤ 2 → mn = 1 := fun w => hm (by omega)
  obtain ⟨y, v', e, r⟩ := hJ v u f p H ro b k z mn hC hM hp hf hl hc (by omega) hm' (fun w => hm3 (g7 w))
  dsimp only
  rw [e, gB_some]
  rcases r with ⟨rfl, p2, f2, rc, H1, rc1, u2, b2, k2, z2, mn2, ⟨L1, L2⟩, C3, M3, R3, P3, G3, O3, D3, T3⟩ | ⟨rfl, F3⟩
  · rw [L1]
    exact binL hA hg hJ hL0 hLno hLop hl hc ht q p2 f2 rc H1 rc1 v' u2 0 2000 b2 k2 z2 mn2 (by omega) (by omega) (by omega) L2 C3 M3 R3 P3 (ge_mono g3 G3) O3 (fun h hh => D3 h (by rw [dp_up g5] at hh; omega)) T3
  · exact ⟨0, v', hL0 1999 v' _ _, Or.inr ⟨rfl, F3⟩⟩
