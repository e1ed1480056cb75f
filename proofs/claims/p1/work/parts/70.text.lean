/-! text: both sides -/
def cf : List Nat → Nat → Nat
  | [], _ => 0
  | a :: L, i => if i = L.length then a else cf L i
theorem cf_stk {f : Nat → Int32} {e : Nat → Nat} {b : Nat} : ∀ {L : List Nat}, stk f e b L → ∀ i, i < L.length → f (b + i) = nI (e (cf L i)) := by
  intro L
  induction L with
  | nil => intro _ i hi; exact absurd hi (Nat.not_lt_zero i)
  | cons a L ih =>
    intro h i hi
    have hi' : i < L.length + 1 := hi
    unfold cf
    by_cases c : i = L.length
    · rw [if_pos c, c]; exact h.1
    · rw [if_neg c]; exact ih h.2 i (by omega)
theorem cf_co : ∀ {L : List Nat}, coL L → ∀ i, i < L.length → isCo (cf L i) := by
  intro L
  induction L with
  | nil => intro _ i hi; exact absurd hi (Nat.not_lt_zero i)
  | cons a L ih =>
    intro h i hi
    have hi' : i < L.length + 1 := hi
    unfold cf
    by_cases c : i = L.length
    · rw [if_pos c]; exact h.1
    · rw [if_neg c]; exact ih h.2 i (by omega)
theorem cf_lo {B : List Nat} : ∀ {A : List Nat} {i : Nat}, i < B.length → cf (A ++ B) i = cf B i := by
  intro A
  induction A with
  | nil => intro i _; rfl
  | cons a A ih =>
    intro i hi
    show (if i = (A ++ B).length then a else cf (A ++ B) i) = _
    rw [List.length_append, if_neg (by omega), ih hi]
theorem cf_hi {B : List Nat} : ∀ {A : List Nat} {i : Nat}, i < A.length → cf (A ++ B) (B.length + i) = cf A i := by
  intro A
  induction A with
  | nil => intro i hi; exact absurd hi (Nat.not_lt_zero i)
  | cons a A ih =>
    intro i hi
    have hi' : i < A.length + 1 := hi
    show (if B.length + i = (A ++ B).length then a else cf (A ++ B) (B.length + i)) = if i = A.length then a else cf A i
    rw [List.length_append]
    by_cases c : i = A.length
    · rw [if_pos c, if_pos (by omega)]
    · rw [if_neg c, if_neg (by omega), ih (by omega)]
theorem wf_of {c : Nat → Nat} {b : Nat} : ∀ (A : List Nat) (m h h' : Nat), (∀ i, i < A.length → c (b + i) = cf A i) → hR A h = some h' → wfN c m (b + A.length) h' → wfN c (A.length + m) b h := by
  intro A
  induction A with
  | nil =>
    intro m h h' _ hh hw
    have e : h = h' := Option.some.inj hh
    rw [e, show ([] : List Nat).length + m = m from Nat.zero_add m]
    exact hw
  | cons a A ih =>
    intro m h h' hc hh hw
    have hh' : (hR A h).bind (sT a) = some h' := hh
    obtain ⟨h1, e1, e2⟩ := Option.bind_eq_some_iff.mp hh'
    have ea : c (b + A.length) = a := by
      rw [hc A.length (Nat.lt_succ_self _)]
      unfold cf
      rw [if_pos rfl]
    have hw' : wfN c m (b + A.length + 1) h' := hw
    have := ih (m + 1) h h1 (fun i hi => by
      rw [hc i (Nat.lt_succ_of_lt hi)]
      show (if i = A.length then a else cf A i) = _
      rw [if_neg (by omega)]) e1 (by
        unfold wfN
        rw [ea]
        unfold sT at e2
        by_cases c1 : a < 6 ∨ 100000 ≤ a
        · rw [if_pos c1] at e2 ⊢
          by_cases c2 : h1 < 40
          · rw [if_pos c2] at e2
            have e3 := Option.some.inj e2
            rw [e3]
            exact ⟨c2, hw'⟩
          · rw [if_neg c2] at e2; cases e2
        · rw [if_neg c1] at e2 ⊢
          by_cases c2 : a = 13 ∨ a = 19
          · rw [if_pos c2] at e2 ⊢
            by_cases c3 : 1 ≤ h1
            · rw [if_pos c3] at e2
              have e3 := Option.some.inj e2
              rw [e3]
              exact ⟨by omega, hw'⟩
            · rw [if_neg c3] at e2; cases e2
          · rw [if_neg c2] at e2 ⊢
            by_cases c3 : 2 ≤ h1
            · rw [if_pos c3] at e2
              have e3 := Option.some.inj e2
              rw [e3]
              exact ⟨by omega, hw'⟩
            · rw [if_neg c3] at e2; cases e2)
    show wfN c (A.length + 1 + m) b h
    rw [show A.length + 1 + m = A.length + (m + 1) by omega]
    exact this
theorem Rel_text {v u v' u' : gV} {n nt t s : Nat} {tc tb tc' tb' : Nat → Nat → Nat} (h : Rel v u n nt t tc tb) (fc : ∀ j, j ≠ 0 → j ≠ 5 → j ≠ 31 + nt → j ≠ 37 + nt → j ≠ 43 + nt → v' j = v j) (f0 : ∀ k, k ≠ 8 → v' 0 k = v 0 k) (f8 : v' 0 8 = nI s) (f5 : v' 5 1 = 0) (fm : ∀ j, j ≠ 0 → j ≠ 7 → j ≠ 8 → j ≠ 15 → u' j = u j) (m7 : ∀ i, i < 200 * nt → u' 7 i = u 7 i) (m8 : ∀ i, i < 4 * nt → u' 8 i = u 8 i) (m0 : ∀ k, k ≠ 8 → k ≠ 11 → ¬ (21 ≤ k ∧ k ≤ 24) → ¬ (27 ≤ k ∧ k ≤ 29) → u' 0 k = u 0 k) (m11 : u' 0 11 = nI s) (m08 : u' 0 8 = 0) (hs : nt ≤ s ∧ s ≤ 6 ∧ nt < 6) (old : ∀ j, j < nt → tc' j = tc j ∧ tb' j = tb j) (new : ∀ j, nt ≤ j → j < s → wTX (tc' j) (tb' j) ∧ cTX v' j (tc' j) (tb' j) ∧ mTX u' j (tc' j) (tb' j)) : Rel v' u' n s t tc' tb' := by
  obtain ⟨⟨b1, b2, b3, b4⟩, ⟨q1, q2, ⟨q3, q5, q6⟩, q4⟩, ⟨⟨a1, a2, a3⟩, ⟨a4, a5, a6, a7⟩, a8, ⟨a9, a10, a11⟩, a12, a13⟩, ⟨-, t5⟩, ⟨i1, i2, i3⟩, hS⟩ := h
  have hv : ∀ j, ¬ (j = 0 ∨ j = 5 ∨ (31 ≤ j ∧ j ≤ 48)) → v' j = v j := fun j hj => fc j (by omega) (by omega) (by omega) (by omega) (by omega)
  have hu : ∀ j, ¬ (j = 0 ∨ j = 7 ∨ j = 8 ∨ j = 15) → u' j = u j := fun j hj => fm j (by omega) (by omega) (by omega) (by omega)
  refine ⟨⟨?_, ?_, hs.2.1, fun j hj => ?_⟩, ⟨?_, ?_, ⟨hs.2.1, by omega, ?_⟩, fun j hj => ?_⟩, ⟨⟨?_, ?_, ?_⟩, ⟨?_, ?_, ?_, ?_⟩, ?_, ⟨f8, ?_, m11⟩, ?_, ?_⟩, ⟨⟨0, by omega, f5, m08, fun i hi => absurd hi (Nat.not_lt_zero i)⟩, ?_⟩, ⟨?_, ?_, ?_⟩, ?_⟩
  · rw [hv 4 (by omega)]; exact b1
  · rw [hv 9 (by omega), hv 10 (by omega), hv 11 (by omega), hv 12 (by omega)]; exact b2
  · by_cases c : j < nt
    · obtain ⟨o1, o2⟩ := old j c
      rw [o1, o2]
      refine ⟨(b4 j c).1, ?_, ?_⟩
      · intro k hk; rw [fc (43 + j) (by omega) (by omega) (by omega) (by omega) (by omega)]; exact (b4 j c).2.1 k hk
      · intro k hk; rw [fc (37 + j) (by omega) (by omega) (by omega) (by omega) (by omega)]; exact (b4 j c).2.2 k hk
    · have := new j (by omega) hj
      exact ⟨this.1, this.2.1⟩
  · rw [m0 1 (by omega) (by omega) (by omega) (by omega)]; exact q1
  · rw [hu 2 (by omega), hu 3 (by omega), hu 4 (by omega), hu 5 (by omega)]; exact q2
  · rw [m0 12 (by omega) (by omega) (by omega) (by omega)]; exact q6
  · by_cases c : j < nt
    · obtain ⟨o1, o2⟩ := old j c
      rw [o1, o2]
      have hle : (tb j) 3 ≤ 160 := (q4 j c).1.2.1.2.2.2
      refine ⟨(q4 j c).1, ?_, ?_⟩
      · intro k hk; rw [m8 _ (by omega)]; exact (q4 j c).2.1 k hk
      · intro k hk; rw [m7 _ (by omega)]; exact (q4 j c).2.2 k hk
    · have := new j (by omega) hj
      exact ⟨this.1, this.2.2⟩
  · rw [hv 1 (by omega), hu 1 (by omega)]; exact a1
  · rw [hv 1 (by omega)]; exact a2
  · rw [hv 1 (by omega)]; exact a3
  · rw [hv 9 (by omega), hu 2 (by omega)]; exact a4
  · rw [hv 10 (by omega), hu 3 (by omega)]; exact a5
  · rw [hv 11 (by omega), hu 4 (by omega)]; exact a6
  · rw [hv 12 (by omega), hu 5 (by omega)]; exact a7
  · rw [m0 6 (by omega) (by omega) (by omega) (by omega)]; exact a8
  · rw [f0 9 (by omega)]; exact a10
  · rw [hv 2 (by omega)]; exact a12
  · intro d hd; rw [hv (20 + d) (by omega)]; exact a13 d hd
  · rw [hu 14 (by omega)]; exact t5
  · rw [hv 17 (by omega)]; exact i1
  · rw [hv 8 (by omega), m0 13 (by omega) (by omega) (by omega) (by omega)]; exact i2
  · rw [hv 8 (by omega), hv 17 (by omega), hv 18 (by omega), hv 19 (by omega), hv 10 (by omega), hv 11 (by omega), hu 9 (by omega), m0 14 (by omega) (by omega) (by omega) (by omega), m0 15 (by omega) (by omega) (by omega) (by omega)]
    rcases i3 with i3 | ⟨i4, ni, ti, i5, i6, i7⟩
    · exact Or.inl i3
    · exact Or.inr ⟨i4, ni, ti, i5, by omega, i7⟩
  · intro s hs
    rw [hv 15 (by omega), hv 16 (by omega), hv (27 + s) (by omega), hu 10 (by omega), hu 11 (by omega), hu 12 (by omega)]
    exact hS s hs
/-- a fault -/
theorem failEnd {v u V v' U u' : gV} {n nt t b : Nat} {tc tb : Nat → Nat → Nat} (h : Rel v u n nt t tc tb) (hn : nt < 6) (hV : ∀ j, j ≠ 43 + nt → V j = v j) (hU : ∀ j, j ≠ 8 → U j = u j) (hU8 : ∀ i, i < 4 * nt → U 8 i = u 8 i) (hc : CX0 V v' nt) (hm : MFw U u' nt b) : ∃ z, fX6_text_101 u' 0 = some (-100 - nI b, z) ∧ RelE (up1 v' 5 1 0) z := by
  obtain ⟨p, k, zz, ro, h1, h2, ⟨h3, -, h4, -⟩, h5, -⟩ := hm
  obtain ⟨c1, -, -⟩ := hc
  have hR := h
  obtain ⟨-, -, ⟨-, -, -, ⟨a9, a10, a11⟩, -⟩, -⟩ := h
  have e11 : u' 0 11 = nI nt := by rw [h3 11 (by omega), hU 0 (by decide)]; exact a11
  have g : gin (4 * nI nt + 3) 24 = true := by
    rw [show (4 * nI nt + 3 : Int32) = 4 * nI nt + nI 3 from rfl, nI_4k]; exact gin_nI (by omega) (by decide)
  have e3 : (4 * nI nt + 3).toNatClampNeg = 4 * nt + 3 := by
    rw [show (4 * nI nt + 3 : Int32) = 4 * nI nt + nI 3 from rfl, nI_4k, nI_clamp (by omega)]
  have e22 : (up1 (up1 u' 8 (4 * nt + 3) (u' 0 29)) 0 8 0) 0 22 = nI b := by
    rw [up1_eq, upd_ne (by decide), up1_ne (by decide)]; exact h4
  unfold fX6_text_101 fX6_text_122
  rw [if_pos rfl, e11, if_pos g, if_pos rfl, e3, e22]
  refine ⟨_, rfl, n, nt, t, tc, tb, Rel_text hR ?_ ?_ ?_ ?_ ?_ ?_ ?_ ?_ ?_ ?_ ⟨Nat.le_refl _, by omega, hn⟩ (fun j _ => ⟨rfl, rfl⟩) (fun j a b => by omega)⟩
  · intro j x0 x5 x31 x37 x43; rw [up1_ne x5, c1 j x5 x31 x37, hV j x43]
  · intro k hk; rw [up1_ne (by decide), c1 0 (by decide) (by omega) (by omega), hV 0 (by omega)]
  · rw [up1_ne (by decide), c1 0 (by decide) (by omega) (by omega), hV 0 (by omega)]; exact a9
  · rw [up1_eq']
  · intro j x0 x7 x8 x15; rw [up1_ne x0, up1_ne x8, h1 j x0 x7 x15, hU j x8]
  · intro i hi; rw [up1_ne (by decide), up1_ne (by decide), h2 i hi, hU 7 (by decide)]
  · intro i hi; rw [up1_ne (by decide), up1_eq, upd_ne (by omega), h1 8 (by decide) (by decide) (by decide)]; exact hU8 i hi
  · intro k k8 k11 k21 k27; rw [up1_eq, upd_ne k8, up1_ne (by decide), h3 k (by omega), hU 0 (by decide)]
  · rw [up1_eq, upd_ne (by decide), up1_ne (by decide)]; exact e11
  · rw [up1_eq']
