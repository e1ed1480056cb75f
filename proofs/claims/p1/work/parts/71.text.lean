/-! text -/
theorem cText {v : gV} {nt : Nat} (hn : nt < 6) (h8 : v 0 8 = nI nt) : fX5_text v = gB (fX3_readInto v nt) (fun y5 v6 => if y5 < 0 then some ((up1 (up1 v6 5 1 0) 0 8 ((up1 v6 5 1 0) 0 8 + 1)) 0 8 - 1, up1 (up1 v6 5 1 0) 0 8 ((up1 v6 5 1 0) 0 8 + 1)) else some (-100 - y5, up1 v6 5 1 0)) := by
  unfold fX5_text fX5_textAt
  rw [h8, if_neg (nI_pos (by omega)), if_neg (nI_nleL (x := 6) (a := 6) rfl rfl hn (by decide)), if_pos (gin_nI hn (by decide)), gB_some]
  unfold gOp
  rw [nI_clamp (by omega)]
  show (if nt < 6 then _ else none) = _
  rw [if_pos hn]
theorem cTextF {v v' : gV} {nt b : Nat} (hn : nt < 6) (h8 : v 0 8 = nI nt) (hb : b ≤ 160) (h : fX3_readInto v nt = some (nI b, v')) : fX5_text v = some (-100 - nI b, up1 v' 5 1 0) := by
  rw [cText hn h8, h, gB_some, if_neg (nI_pos (by omega))]
def bf (n0 n1 n2 : Nat) (k : Nat) : Nat := if k = 0 then 0 else if k = 1 then n0 else if k = 2 then n1 else n2
theorem op_text {v u : gV} (h : RelE v u) : ∃ x v' u', fX5_text v = some (x, v') ∧ fX6_text u = some (x, u') ∧ RelE v' u' := by
  have hE := h
  obtain ⟨n, nt, t, tc, tb, hR⟩ := h
  obtain ⟨⟨-, -, b3, -⟩, -, ⟨-, -, -, ⟨a9, a10, a11⟩, -⟩, ⟨⟨q, t1, t2, t3, t4⟩, t5⟩, -⟩ := id hR
  by_cases c6 : nt = 6
  · subst c6
    have e1 : fX5_text v = some (-4, v) := by
      unfold fX5_text fX5_textAt
      rw [a9, if_neg (nI_pos (by omega)), if_pos (nI_yleL (x := 6) (a := 6) rfl rfl (Nat.le_refl 6) (by decide)), gB_some]
      rfl
    have e2 : fX6_text u = some (-4, u) := by
      unfold fX6_text
      rw [a11, if_pos (show nI 6 = 6 from rfl)]
    exact ⟨_, _, _, e1, e2, hE⟩
  have hn : nt < 6 := by omega
  have hT : ∀ i, i < q → v 13 i = nI (v 13 i).toNatClampNeg ∧ (v 13 i).toNatClampNeg ≤ 255 := by
    intro i hi
    obtain ⟨k, k1, k2⟩ := nI_ex (x := v 13 i) (n := 256) (t4 i hi).2.1 (by have := (t4 i hi).2.2; omega)
    rw [k2, nI_clamp (by omega)]
    exact ⟨rfl, by omega⟩
  have hA : AM v u (fun i => (v 13 i).toNatClampNeg) q nt := ⟨⟨t2, t1, hT⟩, ⟨t3, t1, fun i hi => ⟨by rw [← (t4 i hi).1]; exact (hT i hi).1, (hT i hi).2⟩, t5⟩, a11, hn⟩
  generalize (fun i => (v 13 i).toNatClampNeg) = T at hA
  have hV0 : TP (up1 (up1 (up1 v 5 6 (nI (nt + 1))) (31 + nt) 3 0) 5 2 0) T q := by
    refine ⟨?_, t1, ?_⟩
    · rw [up1_eq, upd_ne (by decide), up1_ne (by omega), up1_eq, upd_ne (by decide)]; exact t2
    · rw [up1_ne (by decide), up1_ne (by omega), up1_ne (by decide)]; exact hA.1.2.2
  obtain ⟨g, g1, g2, g3, g4, g5, g6⟩ := cStep hV0 (Nat.zero_le q) (show _ = nI 0 by rw [up1_eq']; rfl)
  have C0 : CS v (up2 (up1 (up1 (up1 v 5 6 (nI (nt + 1))) (31 + nt) 3 0) 5 2 0) 5 g) T q nt 0 [] := by
    refine ⟨⟨?_, ?_, ?_⟩, ⟨?_, ?_, ?_, ?_⟩, ?_, trivial⟩
    · intro j x0 x1 x2; rw [up2_ne x0, up1_ne x0, up1_ne x1, up1_ne x0]
    · rw [up2_eq, g6 1 (by omega), up1_eq, upd_ne (by decide), up1_ne (by omega), up1_eq, upd_ne (by decide)]
    · rw [up2_eq, g6 6 (by omega), up1_eq, upd_ne (by decide), up1_ne (by omega), up1_eq']
    · rw [up2_eq]; exact g2
    · rw [up2_eq]; exact g3
    · rw [up2_eq]; exact g4
    · rw [up2_eq]; exact g5
    · rw [up2_ne (by omega), up1_ne (by omega), up1_eq']; rfl
  have M0 : MW u (up1 (up1 u 0 21 0) 0 29 0) nt 0 (u 0 22) (u 0 23) (u 0 24) [] := by
    refine ⟨?_, ?_, ⟨?_, ?_, ?_, ?_, ?_⟩, ?_, trivial⟩
    · intro j x0 _ _; rw [up1_ne x0, up1_ne x0]
    · intro j _; rw [up1_ne (by decide), up1_ne (by decide)]
    · intro j hj; rw [up1_eq, upd_ne (by omega), up1_eq, upd_ne (by omega)]
    · rw [up1_eq, upd_ne (by decide), up1_eq']; rfl
    · rw [up1_eq, upd_ne (by decide), up1_eq, upd_ne (by decide)]
    · rw [up1_eq, upd_ne (by decide), up1_eq, upd_ne (by decide)]
    · rw [up1_eq, upd_ne (by decide), up1_eq, upd_ne (by decide)]
    · rw [up1_eq']; rfl
  have eC : fX3_readInto v nt = fX3_readInto_21 2000 (up2 (up1 (up1 (up1 v 5 6 (nI (nt + 1))) (31 + nt) 3 0) 5 2 0) 5 g) nt (nI 0) := by
    unfold fX3_readInto
    rw [g1, gB_some]
    rfl
  have eM : fX6_text u = fX6_text_26 2000 (up1 (up1 u 0 21 0) 0 29 0) 1 (nI 0) := by
    unfold fX6_text
    rw [a11, if_neg (nI_neL (y := 6) (b := 6) rfl rfl c6 (by omega) (by decide))]
    rfl
  rcases partStep hA (k := 0) (by decide) C0 M0 (Nat.zero_le q) (Nat.le_refl 0) with ⟨p1, r0, v1, u1, b1, k1, z1, eC1, eM1, C1, M1, ⟨p1q, p1l⟩, co1, hr1⟩ | ⟨pf, v', u', y, eC1, eM1, c1, hb, hm⟩
  rotate_left
  · obtain ⟨z, f1, f2⟩ := failEnd hR hn (fun j _ => rfl) (fun j hj => up1_ne hj) (fun i hi => by rw [up1_eq, upd_ne (by omega)]) c1 hm
    exact ⟨_, _, z, cTextF hn a9 hb (eC.trans (eC1 1999)), (eM.trans (eM1 1998)).trans f1, f2⟩
  rw [List.append_nil] at C1 M1
  have hA1 := AM_up (k := 0) (i := 4 * nt + 0) (x := nI r0.length) (y := nI ([] : List Nat).length) hA
  rcases partStep hA1 (k := 1) (by decide) C1 (MS_MW M1) p1q (by omega) with ⟨p2, rb, v2, u2, b2, k2, z2, eC2, eM2, C2, M2, ⟨p2q, p2l⟩, co2, hr2⟩ | ⟨pf, v', u', y, eC2, eM2, c2, hb, hm⟩
  rotate_left
  · obtain ⟨z, f1, f2⟩ := failEnd hR hn (fun j hj => up1_ne hj) (fun j hj => by rw [up1_ne hj, up1_ne hj]) (fun i hi => by rw [up1_eq, upd_ne (by omega), up1_eq, upd_ne (by omega)]) c2 hm
    exact ⟨_, _, z, cTextF hn a9 hb (eC.trans ((eC1 1999).trans (eC2 1998))), (eM.trans ((eM1 1999).trans (eM2 1997))).trans f1, f2⟩
  have hA2 := AM_up (k := 1) (i := 4 * nt + 1) (x := nI (rb ++ r0).length) (y := nI r0.length) hA1
  have hl2 : (rb ++ r0).length = rb.length + r0.length := List.length_append
  rcases partStep hA2 (k := 2) (by decide) C2 (MS_MW M2) p2q (by omega) with ⟨p3, rd, v3, u3, b4, k3, z3, eC3, eM3, C3, M3, ⟨p3q, p3l⟩, co3, hr3⟩ | ⟨pf, v', u', y, eC3, eM3, c3, hb, hm⟩
  rotate_left
  · obtain ⟨z, f1, f2⟩ := failEnd hR hn (fun j hj => by rw [up1_ne hj, up1_ne hj]) (fun j hj => by rw [up1_ne hj, up1_ne hj, up1_ne hj]) (fun i hi => by rw [up1_eq, upd_ne (by omega), up1_eq, upd_ne (by omega), up1_eq, upd_ne (by omega)]) c3 hm
    exact ⟨_, _, z, cTextF hn a9 hb (eC.trans ((eC1 1999).trans ((eC2 1998).trans (eC3 1997)))), (eM.trans ((eM1 1999).trans ((eM2 1998).trans (eM3 1996)))).trans f1, f2⟩
  have hA3 := AM_up (k := 2) (i := 4 * nt + 2) (x := nI (rd ++ (rb ++ r0)).length) (y := nI (rb ++ r0).length) hA2
  have hl3 : (rd ++ (rb ++ r0)).length = rd.length + (rb ++ r0).length := List.length_append
  have eC4 : fX3_readInto v nt = fX3_readInto_21 (1996 + 1) v3 nt (nI 3) := eC.trans ((eC1 1999).trans ((eC2 1998).trans (eC3 1997)))
  have eM4 : fX6_text u = fX6_text_26 (1996 + 1) u3 1 (nI 3) := eM.trans ((eM1 1999).trans ((eM2 1998).trans (eM3 1997)))
  have h33 : (3 : Int32) ≤ nI 3 := by decide
  rw [fX3_readInto_21, if_pos h33, C3.2.1.2.2.1, C3.2.1.2.1] at eC4
  obtain ⟨w, zw, w1, w2, -⟩ := mNext M3 hA3.2.1 p3q
  have wk : w 0 23 = mtok (tk T q p3) := w2.2.2.1.2.2.2.1
  have hin := tk_in T q p3
  have hle := bg_le (T := T) p3q
  rw [fX6_text_26, if_pos h33] at eM4
  unfold fX6_text_101 fX6_text_121 at eM4
  rw [if_neg ne10, w1, gB_some, wk] at eM4
  by_cases c0 : tk T q p3 = 0
  · rw [if_pos (show nI (tk T q p3) = 0 by rw [c0]; rfl)] at eC4
    rw [if_pos ((mk_0 _ hin).mpr c0)] at eM4
    have w11 : w 0 11 = nI nt := (w2.2.2.1.1 11 (by decide)).trans hA3.2.2.1
    have w29 : w 0 29 = nI (rd ++ (rb ++ r0)).length := w2.2.2.2.1.2.2
    obtain ⟨x1, x2, -⟩ := C3.1
    have v08 : v3 0 8 = nI nt := by rw [x1 0 (by decide) (by omega) (by omega), up1_ne (by omega), up1_ne (by omega), up1_ne (by omega)]; exact a9
    have e1 : fX5_text v = some (nI nt, up1 (up1 v3 5 1 0) 0 8 (nI (nt + 1))) := by
      rw [cText hn a9, eC4, gB_some, if_pos (show (-1 : Int32) < 0 by decide), up1_ne (show 0 ≠ 5 by decide), v08, nI_1, up1_eq', nI_pred]
    have g : gin (4 * nI nt + 3) 24 = true := by
      rw [show (4 * nI nt + 3 : Int32) = 4 * nI nt + nI 3 from rfl, nI_4k]; exact gin_nI (by omega) (by decide)
    have e3 : (4 * nI nt + 3).toNatClampNeg = 4 * nt + 3 := by
      rw [show (4 * nI nt + 3 : Int32) = 4 * nI nt + nI 3 from rfl, nI_4k, nI_clamp (by omega)]
    have e2 : fX6_text u = some (nI nt, up1 (up1 (up1 w 8 (4 * nt + 3) (nI (rd ++ (rb ++ r0)).length)) 0 8 0) 0 11 (nI (nt + 1))) := by
      rw [eM4]
      unfold fX6_text_122
      have y11 : (up1 (up1 w 8 (4 * nt + 3) (nI (rd ++ (rb ++ r0)).length)) 0 8 0) 0 11 = nI nt := by rw [up1_eq, upd_ne (by decide), up1_ne (by decide)]; exact w11
      rw [w11, if_pos g, if_neg ne10, e3, w29, y11, nI_1, up1_eq', nI_pred]
    refine ⟨_, _, _, e1, e2, n, nt + 1, t, fun j => if j = nt then cf (rd ++ (rb ++ r0)) else tc j, fun j => if j = nt then bf r0.length (rb ++ r0).length (rd ++ (rb ++ r0)).length else tb j, Rel_text hR ?_ ?_ ?_ ?_ ?_ ?_ ?_ ?_ ?_ ?_ ⟨by omega, by omega, hn⟩ (fun j hj => ⟨if_neg (by omega), if_neg (by omega)⟩) ?_⟩
    · intro j y0 y5 y31 y37 y43; rw [up1_ne y0, up1_ne y5, x1 j y5 y31 y37, up1_ne y43, up1_ne y43, up1_ne y43]
    · intro k hk; rw [up1_eq, upd_ne hk, up1_ne (by decide), x1 0 (by decide) (by omega) (by omega), up1_ne (by omega), up1_ne (by omega), up1_ne (by omega)]
    · rw [up1_eq']
    · rw [up1_ne (by decide), up1_eq']
    · intro j y0 y7 y8 y15; rw [up1_ne y0, up1_ne y0, up1_ne y8, w2.1 j y0 y7 y15, up1_ne y8, up1_ne y8, up1_ne y8]
    · intro i hi; rw [up1_ne (by decide), up1_ne (by decide), up1_ne (by decide), w2.2.1 i hi, up1_ne (by decide), up1_ne (by decide), up1_ne (by decide)]
    · intro i hi; rw [up1_ne (by decide), up1_ne (by decide), up1_eq, upd_ne (by omega), w2.1 8 (by decide) (by decide) (by decide), up1_eq, upd_ne (by omega), up1_eq, upd_ne (by omega), up1_eq, upd_ne (by omega)]
    · intro k k8 k11 k21 k27; rw [up1_eq, upd_ne k11, up1_eq, upd_ne k8, up1_ne (by decide), w2.2.2.1.1 k (by omega), up1_ne (by decide), up1_ne (by decide), up1_ne (by decide)]
    · rw [up1_eq']
    · rw [up1_eq, upd_ne (by decide), up1_eq']
    · intro j j1 j2
      obtain rfl : j = nt := by omega
      rw [if_pos rfl, if_pos rfl]
      have hco : coL (rd ++ (rb ++ r0)) := coL_app co3 (coL_app co2 co1)
      have i1 : ∀ i, i < r0.length → cf (rd ++ (rb ++ r0)) (0 + i) = cf r0 i := fun i hi => by
        rw [Nat.zero_add, cf_lo (by omega), cf_lo hi]
      have i2 : ∀ i, i < rb.length → cf (rd ++ (rb ++ r0)) (r0.length + i) = cf rb i := fun i hi => by
        rw [cf_lo (by omega), cf_hi hi]
      have i3 : ∀ i, i < rd.length → cf (rd ++ (rb ++ r0)) ((rb ++ r0).length + i) = cf rd i := fun i hi => cf_hi hi
      have d1 := wf_of r0 0 0 1 i1 hr1 (Nat.le_refl 1)
      have d2 := wf_of rb 0 0 1 i2 hr2 (Nat.le_refl 1)
      have d3 := wf_of rd 0 0 1 i3 hr3 (Nat.le_refl 1)
      refine ⟨⟨rfl, ⟨?_, ?_, ?_, ?_⟩, ?_, ?_⟩, ⟨?_, ?_⟩, ?_, ?_⟩
      · exact Nat.zero_le _
      · show r0.length ≤ (rb ++ r0).length; omega
      · show (rb ++ r0).length ≤ (rd ++ (rb ++ r0)).length; omega
      · show (rd ++ (rb ++ r0)).length ≤ 160; omega
      · exact cf_co hco
      · intro k hk
        match k, hk with
        | 0, _ =>
          show wfN _ (r0.length - 0) 0 0
          exact d1
        | 1, _ =>
          show wfN _ ((rb ++ r0).length - r0.length) r0.length 0
          rw [hl2, Nat.add_sub_cancel]
          exact d2
        | 2, _ =>
          show wfN _ ((rd ++ (rb ++ r0)).length - (rb ++ r0).length) (rb ++ r0).length 0
          rw [hl3, Nat.add_sub_cancel]
          exact d3
      · intro k hk
        rw [up1_ne (by omega), up1_ne (by omega), x1 (43 + j) (by omega) (by omega) (by omega)]
        match k, hk with
        | 0, _ => rw [up1_eq, upd_ne (by decide), up1_eq, upd_ne (by decide), up1_eq']; rfl
        | 1, _ => rw [up1_eq, upd_ne (by decide), up1_eq']; rfl
        | 2, _ => rw [up1_eq']; rfl
      · intro i hi
        have := cf_stk C3.2.2.2 i hi
        rw [Nat.zero_add] at this
        rw [up1_ne (by omega), up1_ne (by omega)]
        exact this
      · intro k hk
        rw [up1_ne (by decide), up1_ne (by decide), up1_eq]
        by_cases k3 : k = 3
        · rw [k3, upd_eq]; rfl
        · rw [upd_ne (by omega), w2.1 8 (by decide) (by decide) (by decide)]
          have k' : k < 3 := by omega
          match k, k' with
          | 0, _ => rw [up1_eq, upd_ne (by omega), up1_eq, upd_ne (by omega), up1_eq']; rfl
          | 1, _ => rw [up1_eq, upd_ne (by omega), up1_eq']; rfl
          | 2, _ => rw [up1_eq']; rfl
      · intro i hi
        have := cf_stk w2.2.2.2.2.2 i hi
        rw [up1_ne (by decide), up1_ne (by decide), up1_ne (by decide)]
        exact this
  · rw [if_neg (nI_neL (y := 0) (b := 0) rfl rfl c0 (by
      have := show ∀ a ∈ tkL, a < 400 by decide
      have := this _ hin
      omega) (by decide))] at eC4
    rw [if_neg (fun x => c0 ((mk_0 _ hin).mp x))] at eM4
    have eq101 : fX6_text u = fX6_text_101 w 0 := by
      rw [eM4]
      unfold fX6_text_101
      rw [if_pos rfl]
    obtain ⟨z, f1, f2⟩ := failEnd (b := bg T q p3) hR hn (fun j hj => by rw [up1_ne hj, up1_ne hj, up1_ne hj]) (fun j hj => by rw [up1_ne hj, up1_ne hj, up1_ne hj]) (fun i hi => by rw [up1_eq, upd_ne (by omega), up1_eq, upd_ne (by omega), up1_eq, upd_ne (by omega)]) C3.1 ⟨_, _, _, _, MS_MW w2⟩
    exact ⟨_, _, z, cTextF hn a9 (by omega) eC4, eq101.trans f1, f2⟩
