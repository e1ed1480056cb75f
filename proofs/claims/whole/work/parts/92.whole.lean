/-! the law whole (laid by wip/whole/fin.py) -/
theorem and63 (x : Int32) : ∃ k, k < 64 ∧ x &&& 63 = nI k := by
  refine ⟨(x.toBitVec &&& 63#32).toNat, ?_, ?_⟩
  · rw [BitVec.toNat_and]
    exact Nat.lt_of_le_of_lt Nat.and_le_right (by decide)
  · apply Int32.toBitVec_inj.mp
    rw [Int32.toBitVec_and]
    show _ = BitVec.ofNat 32 _
    rw [BitVec.ofNat_toNat]
    show _ = BitVec.setWidth 32 _
    rw [BitVec.setWidth_eq]
    rfl
theorem law_loop {l : Launch} {D : va_G} {cA : Nat → ClassId} {G : nG} {b L : Nat} {xs : Nat → Int32} {rS : Nat → Nat} {kc ns : Nat} {r r' : Nat → Nat} (X : NX l D cA R_law code 4 room_1 (lP b L xs rS) G) (hr : ∀ i, 50 ≤ i → r i = rS i) (h1 : kc ≤ room_1.cells) (h2 : ns ≤ room_1.slots) (hL : L ≤ 3584) : ∀ (k j : Nat) (v u : gV), L < j + k → j ≤ L → RelE v u → G (cw (shC cA r) 50 r v ++ cw (shM cA r') 19 r' u) kc ns [(3, .int (nI j)), (0, .ref b), (1, .ref (r 0)), (2, .ref (r' 0))] 18 [] := by
  intro k
  induction k with
  | zero =>
    intro j v u hk hjL hR
    omega
  | succ k ih =>
    intro j v u hk hjL hR
    have e7 : (nI L - 7).toInt = (L : Int) - 7 := by
      have := pk_sub_toInt (a := L) (b := 7) (by omega) (by decide)
      exact this
    refine n_iload_n X d_law_18 rfl 0 rfl ?_
    refine n_aload_n X d_law_19 rfl 1 rfl ?_
    refine l_len X d_law_20 ?_
    refine n_bipush X 7 d_law_21 (by decide) ?_
    refine n_isub X d_law_23 ?_
    refine n_icmp_gt X 1276 d_law_24 (by decide) (fun _ => ?_) (fun c => ?_)
    · refine n_iconst X 1 d_law_1276 (by decide) ?_
      exact l_end X h1 h2 d_law_1277
    · have hj : j + 7 ≤ L := by
        rw [Int32.lt_iff_toInt_lt, e7, nI_toInt (by omega)] at c
        omega
      have kont : ∀ v u, RelE v u → G (cw (shC cA r) 50 r v ++ cw (shM cA r') 19 r' u) kc ns [(3, .int (nI j)), (0, .ref b), (1, .ref (r 0)), (2, .ref (r' 0))] 1270 [] := by
        intro v u hR
        refine n_iinc X (nI (j + 7)) [(3, .int (nI (j + 7))), (0, .ref b), (1, .ref (r 0)), (2, .ref (r' 0))] d_law_1270 0 rfl (nI_add j 7) (by decide) rfl ?_
        refine n_goto X 18 d_law_1273 (by decide) ?_
        exact ih (j + 7) v u (by omega) hj hR
      refine n_aload_n X d_law_27 rfl 1 rfl ?_
      refine n_iload_n X d_law_28 rfl 0 rfl ?_
      refine l_ld X j rfl (by omega) hL d_law_29 ?_
      refine n_bipush X 63 d_law_30 (by decide) ?_
      refine n_iand X d_law_32 ?_
      obtain ⟨c, hc, ec⟩ := and63 (xs j)
      rw [ec]
      by_cases h34 : c < 34
      · match c, h34 with
        | 0, _ => exact l_tabIn X (off := 151) 184 d_law_33 (by decide) (by decide) rfl (by decide) (lc_set X hr h1 h2 hL hj hR kont)
        | 1, _ => exact l_tabIn X (off := 184) 217 d_law_33 (by decide) (by decide) rfl (by decide) (lc_count X hr h1 h2 hL hj hR kont)
        | 2, _ => exact l_tabIn X (off := 207) 240 d_law_33 (by decide) (by decide) rfl (by decide) (lc_feed X hr h1 h2 hL hj hR kont)
        | 3, _ => exact l_tabIn X (off := 282) 315 d_law_33 (by decide) (by decide) rfl (by decide) (lc_text X hr h1 h2 hL hj hR kont)
        | 4, _ => exact l_tabIn X (off := 295) 328 d_law_33 (by decide) (by decide) rfl (by decide) (lc_force X hr h1 h2 hL hj hR kont)
        | 5, _ => exact l_tabIn X (off := 318) 351 d_law_33 (by decide) (by decide) rfl (by decide) (lc_asks X hr h1 h2 hL hj hR kont)
        | 6, _ => exact l_tabIn X (off := 341) 374 d_law_33 (by decide) (by decide) rfl (by decide) (lc_rate X hr h1 h2 hL hj hR kont)
        | 7, _ => exact l_tabIn X (off := 384) 417 d_law_33 (by decide) (by decide) rfl (by decide) (lc_change X hr h1 h2 hL hj hR kont)
        | 8, _ => exact l_tabIn X (off := 427) 460 d_law_33 (by decide) (by decide) rfl (by decide) (lc_told X hr h1 h2 hL hj hR kont)
        | 9, _ => exact l_tabIn X (off := 460) 493 d_law_33 (by decide) (by decide) rfl (by decide) (lc_can X hr h1 h2 hL hj hR kont)
        | 10, _ => exact l_tabIn X (off := 483) 516 d_law_33 (by decide) (by decide) rfl (by decide) (lc_move X hr h1 h2 hL hj hR kont)
        | 11, _ => exact l_tabIn X (off := 506) 539 d_law_33 (by decide) (by decide) rfl (by decide) (lc_all X hr h1 h2 hL hj hR kont)
        | 12, _ => exact l_tabIn X (off := 529) 562 d_law_33 (by decide) (by decide) rfl (by decide) (lc_go X hr h1 h2 hL hj hR kont)
        | 13, _ => exact l_tabIn X (off := 552) 585 d_law_33 (by decide) (by decide) rfl (by decide) (lc_next X hr h1 h2 hL hj hR kont)
        | 14, _ => exact l_tabIn X (off := 575) 608 d_law_33 (by decide) (by decide) rfl (by decide) (lc_best X hr h1 h2 hL hj hR kont)
        | 15, _ => exact l_tabIn X (off := 608) 641 d_law_33 (by decide) (by decide) rfl (by decide) (lc_least X hr h1 h2 hL hj hR kont)
        | 16, _ => exact l_tabIn X (off := 641) 674 d_law_33 (by decide) (by decide) rfl (by decide) (lc_bought X hr h1 h2 hL hj hR kont)
        | 17, _ => exact l_tabIn X (off := 675) 708 d_law_33 (by decide) (by decide) rfl (by decide) (lc_friends X hr h1 h2 hL hj hR kont)
        | 18, _ => exact l_tabIn X (off := 708) 741 d_law_33 (by decide) (by decide) rfl (by decide) (lc_worth X hr h1 h2 hL hj hR kont)
        | 19, _ => exact l_tabIn X (off := 731) 764 d_law_33 (by decide) (by decide) rfl (by decide) (lc_never X hr h1 h2 hL hj hR kont)
        | 20, _ => exact l_tabIn X (off := 754) 787 d_law_33 (by decide) (by decide) rfl (by decide) (lc_when X hr h1 h2 hL hj hR kont)
        | 21, _ => exact l_tabIn X (off := 777) 810 d_law_33 (by decide) (by decide) rfl (by decide) (lc_judge X hr h1 h2 hL hj hR kont)
        | 22, _ => exact l_tabIn X (off := 800) 833 d_law_33 (by decide) (by decide) rfl (by decide) (lc_behind X hr h1 h2 hL hj hR kont)
        | 23, _ => exact l_tabIn X (off := 833) 866 d_law_33 (by decide) (by decide) rfl (by decide) (lc_film X hr h1 h2 hL hj hR kont)
        | 24, _ => exact l_tabIn X (off := 866) 899 d_law_33 (by decide) (by decide) rfl (by decide) (lc_laws X hr h1 h2 hL hj hR kont)
        | 25, _ => exact l_tabIn X (off := 889) 922 d_law_33 (by decide) (by decide) rfl (by decide) (lc_drawn X hr h1 h2 hL hj hR kont)
        | 26, _ => exact l_tabIn X (off := 922) 955 d_law_33 (by decide) (by decide) rfl (by decide) (lc_mean X hr h1 h2 hL hj hR kont)
        | 27, _ => exact l_tabIn X (off := 976) 1009 d_law_33 (by decide) (by decide) rfl (by decide) (lc_image X hr h1 h2 hL hj hR kont)
        | 28, _ => exact l_tabIn X (off := 989) 1022 d_law_33 (by decide) (by decide) rfl (by decide) (lc_back X hr h1 h2 hL hj hR kont)
        | 29, _ => exact l_tabIn X (off := 1002) 1035 d_law_33 (by decide) (by decide) rfl (by decide) (lc_sheet X hr h1 h2 hL hj hR kont)
        | 30, _ => exact l_tabIn X (off := 1045) 1078 d_law_33 (by decide) (by decide) rfl (by decide) (lc_cell X hr h1 h2 hL hj hR kont)
        | 31, _ => exact l_tabIn X (off := 1088) 1121 d_law_33 (by decide) (by decide) rfl (by decide) (lc_copy X hr h1 h2 hL hj hR kont)
        | 32, _ => exact l_tabIn X (off := 1151) 1184 d_law_33 (by decide) (by decide) rfl (by decide) (lc_ratesBy X hr h1 h2 hL hj hR kont)
        | 33, _ => exact l_tabIn X (off := 1204) 1237 d_law_33 (by decide) (by decide) rfl (by decide) (lc_taken X hr h1 h2 hL hj hR kont)
        | n + 34, h34 => exact absurd h34 (by omega)
      · exact l_tabOut X 1270 d_law_33 (Or.inr (by rw [nI_toInt (by omega)]; omega)) (by decide) (kont v u hR)
theorem kdf5 : ∀ j, j < 12 → defaultValue (tyX5 j) = vp_V [.null, .null, .null, .null, .null, .null, .null, .null, .int 0, .int 0, .int 0, .int 0] j := fun j hj => by rcases (show j = 0 ∨ j = 1 ∨ j = 2 ∨ j = 3 ∨ j = 4 ∨ j = 5 ∨ j = 6 ∨ j = 7 ∨ j = 8 ∨ j = 9 ∨ j = 10 ∨ j = 11 by omega) with rfl | rfl | rfl | rfl | rfl | rfl | rfl | rfl | rfl | rfl | rfl | rfl <;> rfl
theorem kdf6 : ∀ j, j < 37 → defaultValue (tyX6 j) = vp_V [.null, .int 0, .null, .null, .null, .null, .int 0, .null, .int 0, .null, .null, .int 0, .int 0, .int 0, .int 0, .int 0, .null, .null, .null, .null, .null, .int 0, .int 0, .int 0, .int 0, .null, .null, .int 0, .int 0, .int 0, .null, .null, .null, .int 0, .int 0, .int 0, .int 0] j := fun j hj => by rcases (show j = 0 ∨ j = 1 ∨ j = 2 ∨ j = 3 ∨ j = 4 ∨ j = 5 ∨ j = 6 ∨ j = 7 ∨ j = 8 ∨ j = 9 ∨ j = 10 ∨ j = 11 ∨ j = 12 ∨ j = 13 ∨ j = 14 ∨ j = 15 ∨ j = 16 ∨ j = 17 ∨ j = 18 ∨ j = 19 ∨ j = 20 ∨ j = 21 ∨ j = 22 ∨ j = 23 ∨ j = 24 ∨ j = 25 ∨ j = 26 ∨ j = 27 ∨ j = 28 ∨ j = 29 ∨ j = 30 ∨ j = 31 ∨ j = 32 ∨ j = 33 ∨ j = 34 ∨ j = 35 ∨ j = 36 by omega) with rfl | rfl | rfl | rfl | rfl | rfl | rfl | rfl | rfl | rfl | rfl | rfl | rfl | rfl | rfl | rfl | rfl | rfl | rfl | rfl | rfl | rfl | rfl | rfl | rfl | rfl | rfl | rfl | rfl | rfl | rfl | rfl | rfl | rfl | rfl | rfl | rfl <;> rfl
theorem kin5 : Cond.instantiable RX5 12 ∈ gw := (gwi 94 (by decide +kernel) (by decide +kernel))
theorem kin6 : Cond.instantiable RX6 37 ∈ gw := (gwi 730 (by decide +kernel) (by decide +kernel))
theorem kiz5 : Cond.initialized RX5 ∈ gw := (gwi 80 (by decide +kernel) (by decide +kernel))
theorem kiz6 : Cond.initialized RX6 ∈ gw := (gwi 86 (by decide +kernel) (by decide +kernel))
theorem kclL_7 : Cond.classLink R_law 7 RX5 ∈ gw := (gwi 93 (by decide +kernel) (by decide +kernel))
theorem kclL_10 : Cond.classLink R_law 10 RX6 ∈ gw := (gwi 729 (by decide +kernel) (by decide +kernel))
set_option maxRecDepth 100000 in
theorem w733 : lw_tbl[733]? = some (Cond.code yX6_init cX6_init 2 none) := rfl
theorem kci5 : gCal yX5_init cX5_init 4 none 0 := ⟨(gwi 80 (by decide +kernel) (by decide +kernel)), (gwi 97 (by decide +kernel) (by decide +kernel)), by decide +kernel, by decide +kernel, by decide +kernel⟩
theorem kci6 : gCal yX6_init cX6_init 2 none 0 := ⟨(gwi 86 (by decide +kernel) (by decide +kernel)), (gwi 733 w733 rfl), by decide +kernel, by decide +kernel, by decide +kernel⟩
theorem kii5 : Cond.instanceMethod yX5_init ∈ gw := (gwi 96 (by decide +kernel) (by decide +kernel))
theorem kii6 : Cond.instanceMethod yX6_init ∈ gw := (gwi 732 (by decide +kernel) (by decide +kernel))
theorem kliL_9 : gLnk R_law 9 yX5_init := Or.inl (gwi 95 (by decide +kernel) (by decide +kernel))
theorem kliL_12 : gLnk R_law 12 yX6_init := Or.inl (gwi 731 (by decide +kernel) (by decide +kernel))
set_option maxHeartbeats 4000000 in
set_option maxRecDepth 100000 in
theorem law_body {l : Launch} {D : va_G} {cA : Nat → ClassId} {G : nG} {b L : Nat} {xs : Nat → Int32} {rS : Nat → Nat} (X : NX l D cA R_law code 4 room_1 (lP b L xs rS) G) (hL : L ≤ 3584) : G [] 0 0 [(0, .ref b)] 0 [] := by
  obtain ⟨u1, hu, hR⟩ := text0
  refine n_new X (ci := 5) (fs := [.null, .null, .null, .null, .null, .null, .null, .null, .int 0, .int 0, .int 0, .int 0]) tyX5 inX5 tyX5_ok kclL_7 kin5 kiz5 rfl kdf5 (Nat.le_of_ble_eq_true rfl) (Nat.le_of_ble_eq_true rfl) d_law_0 (fun q0 => ?_)
  refine n_ws X [(q0, .inr (5, [.null, .null, .null, .null, .null, .null, .null, .null, .int 0, .int 0, .int 0, .int 0]))] rfl ?_
  refine n_dup X d_law_3 rfl ?_
  refine n_init X (wr := []) (st := [.ref q0]) [0] [] kci5 rfl kii5 kliL_9 ⟨by decide, by decide⟩ (mX5_init (h0 := q0) (rS := rS)) rfl rfl rfl rfl (by decide) rfl rfl (Nat.le_of_ble_eq_true rfl) (Nat.le_of_ble_eq_true rfl) (Nat.le_of_ble_eq_true rfl) d_law_4 (fun qs => ?_)
  refine n_ws X (cw (shC cA (rO q0 rS qs)) 50 (rO q0 rS qs) v0C) rfl ?_
  refine n_astore_n X [(1, .ref q0), (0, .ref b)] d_law_7 rfl (by decide) rfl ?_
  refine n_new X (ci := 6) (fs := [.null, .int 0, .null, .null, .null, .null, .int 0, .null, .int 0, .null, .null, .int 0, .int 0, .int 0, .int 0, .int 0, .null, .null, .null, .null, .null, .int 0, .int 0, .int 0, .int 0, .null, .null, .int 0, .int 0, .int 0, .null, .null, .null, .int 0, .int 0, .int 0, .int 0]) tyX6 inX6 tyX6_ok kclL_10 kin6 kiz6 rfl kdf6 (Nat.le_of_ble_eq_true rfl) (Nat.le_of_ble_eq_true rfl) d_law_8 (fun q1 => ?_)
  refine n_dup X d_law_11 rfl ?_
  refine n_init X (wr := cw (shC cA (rO q0 rS qs)) 50 (rO q0 rS qs) v0C) (st := [.ref q1]) ((List.range 1).map (fun i => 50 + i)) (List.range 50) kci6 rfl kii6 kliL_12 ⟨by decide, by decide⟩ (mX6_init (h0 := q1) hu) (pick_r cw_len rfl) (pick_l cw_len) (by decide) (by decide) (by decide) rfl rfl (Nat.le_of_ble_eq_true rfl) (Nat.le_of_ble_eq_true rfl) (Nat.le_of_ble_eq_true rfl) d_law_12 (fun qs' => ?_)
  refine n_ws X (cw (shC cA (rO q0 rS qs)) 50 (rO q0 rS qs) v0C ++ cw (shM cA (rM q1 qs')) 19 (rM q1 qs') u1) rfl ?_
  refine n_astore_n X [(2, .ref q1), (1, .ref q0), (0, .ref b)] d_law_15 rfl (by decide) rfl ?_
  refine n_iconst X 0 d_law_16 (by decide) ?_
  refine n_istore_n X [(3, .int 0), (2, .ref q1), (1, .ref q0), (0, .ref b)] d_law_17 rfl (by decide) rfl ?_
  refine n_sub X [0, 3, 2, 1] (ls' := [(3, .int (nI 0)), (0, .ref b), (1, .ref (rO q0 rS qs 0)), (2, .ref (rM q1 qs' 0))]) rfl ?_
  exact law_loop X (fun i hi => by unfold rO; rw [if_neg (by omega), if_neg (by omega)]) (Nat.le_of_ble_eq_true rfl) (Nat.le_of_ble_eq_true rfl) hL (L + 1) 0 v0C u1 (by omega) (Nat.zero_le L) hR
theorem known {s : State} {args : Array Value} (hts : ∀ w ∈ lw_tbl, w.before args s = true) : ∃ (D : va_G) (cA : Nat → ClassId), va_K D vwCl (tysC cA) s := by
  have one : ∀ k : Nat, ∃ z : ClassId × (Nat → Nat), ∀ q : vw_C, vwCl[k]? = some q → u_Kn s q.1 q.2.1 q.2.2 z.1 z.2 := by
    intro k
    have mk : ∀ {C : String} {T : u_T} {N : Nat}, (∀ w ∈ u_ws C T N, w ∈ gw) → Cond.instantiable C N ∈ gw → vwCl[k]? = some (C, T, N) → ∃ z : ClassId × (Nat → Nat), ∀ q : vw_C, vwCl[k]? = some q → u_Kn s q.1 q.2.1 q.2.2 z.1 z.2 := by
      intro C T N hin hi he
      obtain ⟨c, iS, h⟩ := u_known (n := N) hts (fun w h => gw_tbl w (hin w h)) (hts _ (gw_tbl _ hi))
      refine ⟨(c, iS), fun q hq => ?_⟩
      rw [he] at hq
      cases hq
      exact h
    match k with
    | 0 => exact mk inX0 kin0 rfl
    | 1 => exact mk inX1 kin1 rfl
    | 2 => exact mk inX2 kin2 rfl
    | 3 => exact mk inX3 kin3 rfl
    | 4 => exact mk inX4 kin4 rfl
    | 5 => exact mk inX5 kin5 rfl
    | 6 => exact mk inX6 kin6 rfl
    | k + 7 => exact ⟨(0, fun _ => 0), fun q hq => by simp [vwCl] at hq⟩
  obtain ⟨z, hz⟩ := Classical.axiomOfChoice one
  obtain ⟨c0, k0, p0, a1, a2, a3⟩ := Cond.arrayClass_spec (hts _ (gw_tbl _ kai))
  obtain ⟨p1, c1, k1, b1, -, b2, b3, b4⟩ := Cond.arrayOver_spec (ss_zn hts).2.1
  obtain ⟨p2, c2, k2, d1, -, d2, d3, d4⟩ := arrayOverA_spec (ss_zn hts).2.2
  refine ⟨(fun k => (z k).1, fun k => (z k).2), fun k => if k = 0 then c0 else if k = 1 then c1 else c2, fun k q hq => hz k q hq, fun k q hq => ?_⟩
  match k, hq with
  | 0, hq =>
    cases hq
    exact ⟨fun n w => ⟨(fun k h => by cases h), k0, a2, p0, a3⟩, a1⟩
  | 1, hq =>
    cases hq
    exact ⟨fun n w => ⟨(fun k h => by cases h), k1, b2, p1, b3⟩, k1, p1, b2, b3, b1, b4⟩
  | 2, hq =>
    cases hq
    exact ⟨fun n w => ⟨(fun k h => by cases h), k2, d2, p2, d3⟩, d4⟩
  | k + 3, hq => simp [tysC] at hq
/-- THE LAW, from its entry -/
theorem whole_start {p : Program} {e : Env} {s : State} {m : MethodId} {below : List Frame} {meth : Method} {c : Code} (l : Launch) (hflags : l.flags = flags0) {b L : Nat} {xs : Nat → Int32} (hL : L ≤ 3584) (C0 : lw_At p s m meth c b L xs) : W p l e room_1 s m #[Value.ref b] below meth c s.heap [] 0 0 (lw_Z below #[Value.ref b] s) (entryFrame m ([Value.ref b] : List Value).toArray 4) := by
  obtain ⟨hx, hb, hr, hml, hown, hts, hX, hbl, hlocks, hgv⟩ := C0
  obtain ⟨D, cA, hK⟩ := known hts
  obtain ⟨rS, hZ⟩ := ZC_start (A := fun q => s.heap.size ≤ q) hts hgv (fun a h => Nat.not_le.mpr h)
  have hl := lv_entry ([.ref b]) (n := 4) (Nat.le_of_ble_eq_true rfl)
  rw [lg_entry_eq]
  exact law_body (D := D) (cA := cA) ⟨p, e, s, m, _, below, meth, c, fun q => s.heap.size ≤ q, _, ⟨hx, hb, hml, hown, fun w hw => hts w (gw_tbl w hw)⟩, hK, ss_zn hts, fun q h => h, ⟨⟨rfl, rfl, rfl⟩, ⟨hX, hbl⟩, ⟨hr, hlocks⟩, hZ⟩, rfl⟩ hL s.heap [] _ (fun k q h => by simp at h) ⟨fun i j p q h => by simp at h, fun k q h => by simp at h⟩ va_S.rf hl
set_option maxHeartbeats 4000000 in
theorem lw_walk (l : Launch) (hflags : l.flags = flags0) (b : Addr) (xs : List Int32) : MetFree l x (headSpec (Jvm.Cond.code x code maxLocals ret :: tables_1) room_1) (lw_P b xs) (fun _ _ _ _ _ => True) lw_Q := by
  refine MetFree.of_bodyS (code := code) (maxLocals := maxLocals) (ret := ret) (by decide) ?_ ?_
  · intro args s m h hn
    obtain ⟨meth, c, h1, h2, h3, h4, h5, h6, -, -⟩ := Cond.code_spec hn (atoms_spec (ws := Jvm.Cond.code x code maxLocals ret :: tables_1) h _ List.mem_cons_self)
    exact ⟨meth, c, h1, h2, h3, h4, h5, h6⟩
  · intro p e s m args below meth c s₁ B hml0 hP _
    obtain ⟨rfl, hx, hbd, hgv⟩ := hP
    obtain ⟨scr, harrAt, hlist, hof, hsmall⟩ := hx
    obtain ⟨hcb, hkn, -, -⟩ := State.arrayAt?_spec harrAt
    have hown : s.vm.findClass R_law = some m.cls := findClass_of_methodNamed B.named
    have hts0 : ∀ c ∈ (Jvm.Cond.code x code maxLocals ret :: tables_1), c.before #[Value.ref b] s = true := atoms_spec (ws := Jvm.Cond.code x code maxLocals ret :: tables_1) B.pre
    have hts : ∀ w ∈ lw_tbl, w.before #[Value.ref b] s = true := k2_hts_sels lw_privs (fun w hw => hts0 w (List.mem_cons_of_mem _ hw)) lw_privs_ok
    have hml : c.maxLocals = 4 := B.maxLocals_eq (hts0 _ List.mem_cons_self)
    have X₀ : Stand p l e room_1 s m #[Value.ref b] below meth c s₁ [] 0 0 := Stand.of_body B
    have hh0 : s₁.heap = s.heap := by rw [B.state]; rfl
    have hsz : scr.slots.size = xs.length := by rw [← Array.length_toList, hlist, List.length_map]
    have hval : ∀ j : Nat, j < xs.length → scr.slots[j]? = some (.int (xs.getD j 0)) := fun j hj => by
      rw [← Array.getElem?_toList, hlist]
      simp [hj]
    have hbl : b < s.heap.size := (Array.getElem?_eq_some_iff.mp hcb).1
    have hX : va_X b xs.length (fun j => xs.getD j 0) s s.heap := ⟨scr, hcb, hof, hkn, hsz, hval⟩
    have K : W p l e room_1 s m #[Value.ref b] below meth c s₁.heap [] 0 0 (lw_Z below #[Value.ref b] s) (entryFrame m ([Value.ref b] : List Value).toArray 4) := by
      rw [hh0]
      exact whole_start l hflags hbd ⟨B.exec, B.bytes, B.returns, hml, hown, hts, hX, hbl, B.notSynchronized, hgv⟩
    obtain ⟨t, a1, o, b1, b2, b3⟩ := K s₁ rfl X₀
    exact ⟨t, o, a1, b1, b2, b3⟩
theorem lw_pre_spec {args : Array Value} {s : State} (h : (Jvm.Cond.and given_1 narrow_1).before args s = true) (hr : rest_1_c.before args s = true) : ∃ (b : Addr) (xs : List Int32), lw_P b xs args s := by
  have hs := flat_of_before _ h
  have hq := flat_of_before _ hr
  have hc : (Cond.count 1).before args s = true := hs _ (by decide +kernel)
  have harr : (Cond.arrayOf (.arg 0) .int).before args s = true := hs _ (by decide +kernel)
  have hle : (Cond.le (.length (.arg 0)) (.int 3584)).before args s = true := hs _ (by decide +kernel)
  have hlen : (Cond.isInt (.length (.arg 0))).before args s = true := hq _ (by decide +kernel)
  have hall : (Cond.all (.arg 0) (.isInt (.elem (.arg 0) (.index 0)))).before args s = true := hq _ (by decide +kernel)
  obtain ⟨b, xs, hb, hx⟩ := State.ints_of_pre rfl harr hlen hall
  have hsm : xs.length < 2 ^ 31 := hx.choose_spec.2.2.2
  have hev : (Term.length (.arg 0)).eval args s none [] s = some (.int xs.length.toInt32) := hx.length_eval hb
  have hv := Cond.le_ints hev (show (Term.int 3584).eval args s none [] s = some (.int 3584) from rfl)
  have hd : xs.length.toInt32 ≤ 3584 := by
    simpa [Cond.before, Cond.holds, hv] using hle
  have hN : xs.length ≤ 3584 := (Int32.ofNat_le_ofNat hsm (by decide)).mp (show Int32.ofNat xs.length ≤ Int32.ofNat 3584 from hd)
  exact ⟨b, xs, Cond.one_arg hc (show args[0]? = some (.ref b) from hb), hx, hN, h⟩
theorem lw_comes (l : Launch) (hflags : l.flags = flags0) : Comes l x (Jvm.Cond.code x code maxLocals ret :: tables_1) room_1 (fun tb e args s => Calls_1 tb e args s ∧ rest_1 tb e args s ∧ Pre_1 tb e args s)
    (fun _ _ args s o t => lw_Q args s o t) := by
  intro p e ha hc hk s m args below hf hfit hheap happ hpre
  obtain ⟨b, xs, hP⟩ := lw_pre_spec hpre.2.2 hpre.2.1
  obtain ⟨k, o, h1, h2, h3, hQ⟩ := lw_walk l hflags b xs p e ha hc hk s m args below hf ((Spec.applies_iff_loose hf).mp happ).1 hP trivial
  exact ⟨k, o, h1, h2, h3, hQ⟩
theorem lw_frame {s t : State} {o : Outcome} {args : Array Value} (h : Framed s o t [] 600000 7302250) :
    Framed s o t (fieldLocs frame_1_writes args s ++ arrayLocs frame_1_arrays args s ++ staticLocs frame_1_statics s) 600000 7302250 := h
theorem lw_limb (L : Cond) (hL : ∀ (args : Array Value) (s t : State), L.after args s (.returned (some (.int 1))) t = true) :
    ArmFor flags0 classFile x code maxLocals ret World_1 tables_1 room_1 Calls_1 rest_1 Pre_1
      (fun tb e a s o t => postC L tb e a s o t ∧ Framed s o t (fieldLocs frame_1_writes a s ++ arrayLocs frame_1_arrays a s ++ staticLocs frame_1_statics s) 600000 7302250) := by
  intro l hflags _ _ p e ha hc hk s m args below hf hfit hheap happ hpre
  obtain ⟨k, o, h1, h2, h3, rfl, hF⟩ := lw_comes l hflags p e ha hc hk s m args below hf hfit hheap happ hpre
  exact ⟨k, _, h1, h2, h3, hL args s _, lw_frame hF⟩
theorem i_vc : Claimed_1_1 ∧ Claimed_1_2 := ⟨lw_limb limb_1_1 (fun args s t => by simp [limb_1_1, Cond.after, Cond.holds, Cond.value]), lw_limb limb_1_2 (fun args s t => Cond.after_iff.mpr (by
  first | (rw [show limb_1_2 = Cond.eq .result (.int 1) from rfl, Cond.eq_ints (x := 1) (y := 1) rfl rfl]; simp; done) | (simp [limb_1_2, Cond.value, Term.eval]; done)))⟩
