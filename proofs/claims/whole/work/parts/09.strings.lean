/-! the JDK's members that the class calls: length and charAt of the twelve texts -/
section GS
variable {l : Launch} {D : va_G} {tys : gT} {sh : gSh} {N : Nat} {r : Nat → Nat} {Z : gZ} {own : String} {cc : ByteArray} {nL : Nat} {ret : Option FieldType} {rm : Room} {res : Option Value} {v' : gV} {G : gG}
variable {v : gV} {ls : List (Nat × Value)} {pc : Nat} {st : List Value}
theorem g_nret {xr : Int32} {ty : FieldType} (X : CX l D tys sh N r Z own cc nL (some ty) rm (some (.int xr)) v' G) {x : Int32} (hn : narrow ty (.int x) = .int x) (h : x = xr ∧ v' = v) (hd : decode cc pc = .ok (.ireturn, 1)) : G v ls pc [.int x] := by
  obtain ⟨p, e, s, m, args, below, meth, c, A, ⟨hx, hb, hml, hown, hts⟩, hr0, hlk, hK, hZ0, hZ, hA, rfl⟩ := X
  obtain ⟨rfl, rfl⟩ := h
  intro H locs la hP hD hS h
  exact W.zret hx hb hr0 hn (fun t ht hW => ⟨rfl, ⟨by rw [ht]; exact hP, va_K.moved hW.alike hK, hD⟩, hS.F ht⟩) hS.2.2 hd
theorem g_i2c (X : CX l D tys sh N r Z own cc nL ret rm res v' G) {x : Int32} (y : Int32) (hd : decode cc pc = .ok (.i2c, 1)) (hy : (x.toUInt32 % 65536).toInt32 = y) (k : G v ls (pc + 1) (.int y :: st)) : G v ls pc (.int x :: st) := by
  obtain ⟨p, e, s, m, args, below, meth, c, A, ⟨hx, hb, hml, hown, hts⟩, hr, hlk, hK, hZ0, hZ, hA, rfl⟩ := X
  intro H locs la hP hD hS h
  exact lv_i2c hx hb hd hy (k H locs la hP hD hS h)
theorem g_getO (X : CX l D tys sh N r Z own cc nL ret rm res v' G) {o n d : String} {index b : Nat} {a : Value} (hz : ∀ A U H, Z A U H → va_OF o n d a b A U H) (hl : Cond.fieldLink own index o n d ∈ gw) (hd : decode cc pc = .ok (.getfield index, 3)) (kk : G v ls (pc + 3) (a :: st)) : G v ls pc (.ref b :: st) := by
  obtain ⟨p, e, s, m, args, below, meth, c, A, ⟨hx, hb, hml, hown, hts⟩, hr, hlk, hK, hZ0, hZ, hA, rfl⟩ := X
  intro H locs la hP hD hS h
  exact vk_getf hx hb (hz _ _ _ hZ0) hS hown (hts _ hl) (fun _ q => q) hd (kk H locs la hP hD hS h)
theorem g_alenB (X : CX l D tys sh N r Z own cc nL ret rm res v' G) {t n : Nat} {f : Nat → Int32} (hz : ∀ A U H, Z A U H → va_T .byte t n (fun j => .int (f j)) A U H) (x : Int32) (hx : Int32.ofNat n = x) (hd : decode cc pc = .ok (.arraylength, 1)) (kk : G v ls (pc + 1) (.int x :: st)) : G v ls pc (.ref t :: st) := by
  obtain ⟨p, e, s, m, args, below, meth, c, A, ⟨hx0, hb, hml, hown, hts⟩, hr, hlk, hK, hZ0, hZ, hA, rfl⟩ := X
  intro H locs la hP hD hS h
  obtain ⟨cell, q1, q2, q3, q4, q5, q6, q7⟩ := hz _ _ _ (hZ.2.1 _ _ _ _ hZ0 hS.2.1)
  exact W.alen hx0 hb q1 q2 (q5.trans hx) rfl rfl hd (kk H locs la hP hD hS h)
theorem g_baldT (X : CX l D tys sh N r Z own cc nL ret rm res v' G) {t n : Nat} {f : Nat → Int32} {x : Int32} (hz : ∀ A U H, Z A U H → va_T .byte t n (fun j => .int (f j)) A U H) (hin : vp_in x n) (hd : decode cc pc = .ok (.baload, 1)) (kk : G v ls (pc + 1) (.int (f x.toNatClampNeg) :: st)) : G v ls pc (.int x :: .ref t :: st) := by
  obtain ⟨p, e, s, m, args, below, meth, c, A, ⟨hx, hb, hml, hown, hts⟩, hr, hlk, hK, hZ0, hZ, hA, rfl⟩ := X
  intro H locs la hP hD hS h
  have hlt : x.toNatClampNeg < n := Nat.not_le.mp fun q => hin (Or.inr q)
  obtain ⟨cell, q1, q2, q3, q4, q5, q6, q7⟩ := hz _ _ _ (hZ.2.1 _ _ _ _ hZ0 hS.2.1)
  exact W.bald hx hb q1 q2 q3 (fun q => hin (q.elim Or.inl (fun z => Or.inr (Nat.le_trans q4 z)))) (q6 _ hlt) rfl rfl hd (kk H locs la hP hD hS h)
theorem g_getsQ (X : CX l D tys sh N r Z own cc nL ret rm res v' G) {C n d : String} {index : Nat} (hz : ∀ A U H, Z A U H → va_Zq C n d A U H) (hl : Cond.fieldLink own index C n d ∈ gw) (hd : decode cc pc = .ok (.getstatic index, 3)) (kk : ∀ o : Option Nat, G v ls (pc + 3) (va_rf o :: st)) : G v ls pc st := by
  obtain ⟨p, e, s, m, args, below, meth, c, A, ⟨hx, hb, hml, hown, hts⟩, hr, hlk, hK, hZ0, hZ, hA, rfl⟩ := X
  intro H locs la hP hD hS h
  rcases hz _ _ _ hZ0 with h0 | ⟨t, h0⟩
  · exact va_gets hx hb h0 hS hown (hts _ hl) (fun _ q => q) hd (kk none H locs la hP hD hS h)
  · exact va_gets hx hb h0 hS hown (hts _ hl) (fun _ q => q) hd (kk (some t) H locs la hP hD hS h)
/-- a call on an object outside the world -/
theorem g_callO (X : CX l D tys sh N r Z own cc nL ret rm res v' G) {y : MethodName} {bytes : ByteArray} {nLY n index b : Nat} {retY : Option FieldType} {rmY : Room} {As stk st' : List Value} {resY : Option Value} {v1 : gV}
    (hcal : gCal y bytes nLY retY n) (hvir : gVir y) (hlnk : Cond.methodLink own index y ∈ gw) (hrm : gRm rm rmY nLY) (hM : Ct l D tys sh N r Z y bytes nLY retY rmY (.ref b :: As) v resY v1) (hz : ∀ A U H, Z A U H → va_O y.cls b A U H) (hn : As.length = n) (hstk : As.reverse ++ .ref b :: st = stk) (hroom : (st.map fun v => v.category).sum ≤ 8) (hres : resY.toList ++ st = st') (hd : decode cc pc = .ok (.invokevirtual index, 3)) (kk : G v1 ls (pc + 3) st') : G v ls pc stk := by
  obtain ⟨p, e, s, m, args, below, meth, c, A, ⟨hx, hb, hml, hown, hts⟩, hr, hlk, hK, hZ0, hZ, hA, rfl⟩ := X
  subst hres
  intro H locs la hP hD hS h
  obtain ⟨hini, hcode, hdd⟩ := hcal
  have hg : GoodIn gw (Cond.code y bytes nLY retY :: gw) := fun w hw => (List.mem_cons.mp hw).elim (fun q => by rw [q]; exact gw_good _ hcode) (gw_good w)
  have hin := cw_in (N := N) (r := r) (sz := H.size) hD (fun q h => hA q (Nat.le_trans hS.1 h))
  obtain ⟨cell, h1, h2, h3, -⟩ := hz _ _ _ (hZ.2.1 _ _ _ _ hZ0 hS.2.1)
  have hpre : PreV s H y.cls b (va_Pc (.ref b :: As) (fun U => U.heap.size = H.size ∧ va_P D vwCl (cw sh N r v) U.heap ∧ va_K D vwCl tys U ∧ va_D (fun _ => True) (cw sh N r v) ∧ Z (gA N r H.size) U U.heap)) As :=
    ⟨g_blind hZ, ⟨cell, h1, h2, h3⟩, fun U hU hW => ⟨rfl, by rw [hU], by rw [hU]; exact hP, va_K.moved hW.alike hK, hD.weaken (fun _ _ _ _ => trivial), by
      rw [hU]
      exact hZ.1.2 _ _ _ _ hW (hZ.2.2.1 _ _ _ _ (hZ.2.1 _ _ _ _ hZ0 hS.2.1) hin)⟩⟩
  exact g_behind (va_runV (nL := nL) ⟨hx, hb, hml, hown, hts⟩ (hM H.size) ⟨callB_of n hts hg rfl hrm.1 hrm.2.1 (hts _ hini) (hts _ hlnk) hdd ⟨hrm.2.2.1, hrm.2.2.2⟩, hts _ hvir.1, hts _ hvir.2⟩ hpre rfl hn h.1 hstk.symm (lv_room hroom) hd ⟨Nat.zero_le _, Nat.zero_le _⟩) hD hS hA (fun H1 locs1 hP1 hD1 hS1 => kk H1 locs1 la hP1 hD1 hS1 h)
end GS
theorem kcJ0_coder_7d493 : gCal yJ0_coder_7d493 cJ0_coder_7d493 1 (some .byte) 0 := ⟨(gwi 87 (by decide +kernel) (by decide +kernel)), (gwi 355 (by decide +kernel) (by decide +kernel)), by decide +kernel, by decide +kernel, by decide +kernel⟩
theorem kvJ0_coder_7d493 : gVir yJ0_coder_7d493 := ⟨(gwi 353 (by decide +kernel) (by decide +kernel)), (gwi 354 (by decide +kernel) (by decide +kernel))⟩
def rmJ0_coder_7d493 : Room := { frames := 0, cells := 0, slots := 0, locals := 0 }
theorem kcJ0_length_8abf5 : gCal yJ0_length_8abf5 cJ0_length_8abf5 1 (some .int) 0 := ⟨(gwi 87 (by decide +kernel) (by decide +kernel)), (gwi 351 (by decide +kernel) (by decide +kernel)), by decide +kernel, by decide +kernel, by decide +kernel⟩
theorem kvJ0_length_8abf5 : gVir yJ0_length_8abf5 := ⟨(gwi 349 (by decide +kernel) (by decide +kernel)), (gwi 350 (by decide +kernel) (by decide +kernel))⟩
def rmJ0_length_8abf5 : Room := { frames := 1, cells := 0, slots := 0, locals := 20 }
theorem kcJ0_isLatin1_aae02 : gCal yJ0_isLatin1_aae02 cJ0_isLatin1_aae02 1 (some .boolean) 0 := ⟨(gwi 87 (by decide +kernel) (by decide +kernel)), (gwi 365 (by decide +kernel) (by decide +kernel)), by decide +kernel, by decide +kernel, by decide +kernel⟩
theorem kvJ0_isLatin1_aae02 : gVir yJ0_isLatin1_aae02 := ⟨(gwi 363 (by decide +kernel) (by decide +kernel)), (gwi 364 (by decide +kernel) (by decide +kernel))⟩
def rmJ0_isLatin1_aae02 : Room := { frames := 0, cells := 0, slots := 0, locals := 0 }
theorem kcJ3_checkIndex_8e157 : gCal yJ3_checkIndex_8e157 cJ3_checkIndex_8e157 3 (some .int) 3 := ⟨(gwi 89 (by decide +kernel) (by decide +kernel)), (gwi 376 (by decide +kernel) (by decide +kernel)), by decide +kernel, by decide +kernel, by decide +kernel⟩
theorem ktJ3_checkIndex_8e157 : Cond.static yJ3_checkIndex_8e157 ∈ gw := (gwi 375 (by decide +kernel) (by decide +kernel))
def rmJ3_checkIndex_8e157 : Room := { frames := 0, cells := 0, slots := 0, locals := 0 }
theorem kcJ0_checkIndex_df160 : gCal yJ0_checkIndex_df160 cJ0_checkIndex_df160 2 none 2 := ⟨(gwi 87 (by decide +kernel) (by decide +kernel)), (gwi 371 (by decide +kernel) (by decide +kernel)), by decide +kernel, by decide +kernel, by decide +kernel⟩
theorem ktJ0_checkIndex_df160 : Cond.static yJ0_checkIndex_df160 ∈ gw := (gwi 370 (by decide +kernel) (by decide +kernel))
def rmJ0_checkIndex_df160 : Room := { frames := 1, cells := 0, slots := 0, locals := 22 }
theorem kcJ1_charAt_3b067 : gCal yJ1_charAt_3b067 cJ1_charAt_3b067 2 (some .char) 2 := ⟨(gwi 88 (by decide +kernel) (by decide +kernel)), (gwi 368 (by decide +kernel) (by decide +kernel)), by decide +kernel, by decide +kernel, by decide +kernel⟩
theorem ktJ1_charAt_3b067 : Cond.static yJ1_charAt_3b067 ∈ gw := (gwi 367 (by decide +kernel) (by decide +kernel))
def rmJ1_charAt_3b067 : Room := { frames := 2, cells := 0, slots := 0, locals := 43 }
theorem kcJ0_charAt_5068e : gCal yJ0_charAt_5068e cJ0_charAt_5068e 2 (some .char) 1 := ⟨(gwi 87 (by decide +kernel) (by decide +kernel)), (gwi 361 (by decide +kernel) (by decide +kernel)), by decide +kernel, by decide +kernel, by decide +kernel⟩
theorem kvJ0_charAt_5068e : gVir yJ0_charAt_5068e := ⟨(gwi 359 (by decide +kernel) (by decide +kernel)), (gwi 360 (by decide +kernel) (by decide +kernel))⟩
def rmJ0_charAt_5068e : Room := { frames := 3, cells := 0, slots := 0, locals := 64 }
theorem plJ0 : plainName RJ0 = true := by decide +kernel
theorem plJ1 : plainName RJ1 = true := by decide +kernel
theorem plJ3 : plainName RJ3 = true := by decide +kernel
theorem kf38 : Cond.fieldLink RJ0 38 "java/lang/String" "COMPACT_STRINGS" "Z" ∈ gw := (gwi 356 (by decide +kernel) (by decide +kernel))
theorem kf15 : Cond.fieldLink RJ0 15 "java/lang/String" "coder" "B" ∈ gw := (gwi 1148 (by decide +kernel) (by decide +kernel))
theorem kf9 : Cond.fieldLink RJ0 9 "java/lang/String" "value" "[B" ∈ gw := (gwi 1147 (by decide +kernel) (by decide +kernel))
theorem kf1053 : Cond.fieldLink RJ0 1053 "jdk/internal/util/Preconditions" "SIOOBE_FORMATTER" "Ljava/util/function/BiFunction;" ∈ gw := (gwi 372 (by decide +kernel) (by decide +kernel))
theorem kj335 : Cond.methodLink RJ0 335 yJ0_coder_7d493 ∈ gw := (gwi 352 (by decide +kernel) (by decide +kernel))
theorem kj492 : Cond.methodLink RJ0 492 yJ0_isLatin1_aae02 ∈ gw := (gwi 362 (by decide +kernel) (by decide +kernel))
theorem kj495 : gLnk RJ0 495 yJ1_charAt_3b067 := Or.inl (gwi 366 (by decide +kernel) (by decide +kernel))
theorem kj9 : gLnk RJ1 9 yJ0_checkIndex_df160 := Or.inl (gwi 369 (by decide +kernel) (by decide +kernel))
theorem kj1059 : gLnk RJ0 1059 yJ3_checkIndex_8e157 := Or.inl (gwi 374 (by decide +kernel) (by decide +kernel))
theorem kj103 : Cond.methodLink RX3 103 yJ0_length_8abf5 ∈ gw := (gwi 348 (by decide +kernel) (by decide +kernel))
theorem kj109 : Cond.methodLink RX3 109 yJ0_charAt_5068e ∈ gw := (gwi 358 (by decide +kernel) (by decide +kernel))
theorem gwc_ok : ∀ w, w < 12 → ∀ k, k < gWlen.getD w 0 → ((gwc w k &&& 255).toUInt32 % 65536).toInt32 = gwc w k ∧ narrow .char (.int (gwc w k)) = .int (gwc w k) := by decide +kernel
theorem gwl_ok : ∀ w, w < 12 → gwl w >>> ((0 : Int32) &&& 31) = gwl w ∧ gWlen.getD w 0 < 2 ^ 31 := by decide +kernel
theorem zSO {r : Nat → Nat} {w : Nat} (hw : w < 12) (A : Nat → Prop) (U : State) (H : Heap) (h : ZC r A U H) : va_O "java/lang/String" (r (100 + w)) A U H := (h.2.2.1.1 w hw).1
theorem zSC {r : Nat → Nat} {w : Nat} (hw : w < 12) (A : Nat → Prop) (U : State) (H : Heap) (h : ZC r A U H) : va_OF "java/lang/String" "coder" "B" (.int 0) (r (100 + w)) A U H := (h.2.2.1.1 w hw).2.1
theorem zSV {r : Nat → Nat} {w : Nat} (hw : w < 12) (A : Nat → Prop) (U : State) (H : Heap) (h : ZC r A U H) : va_OF "java/lang/String" "value" "[B" (.ref (r (130 + w))) (r (100 + w)) A U H := (h.2.2.1.1 w hw).2.2.1
theorem zST {r : Nat → Nat} {w : Nat} (hw : w < 12) (A : Nat → Prop) (U : State) (H : Heap) (h : ZC r A U H) : va_T .byte (r (130 + w)) (gWlen.getD w 0) (fun j => .int (gwc w j)) A U H := (h.2.2.1.1 w hw).2.2.2
theorem zCS {r : Nat → Nat} (A : Nat → Prop) (U : State) (H : Heap) (h : ZC r A U H) : va_Z "java/lang/String" "COMPACT_STRINGS" "Z" (.int 1) A U H := h.2.1
theorem zFM {r : Nat → Nat} (A : Nat → Prop) (U : State) (H : Heap) (h : ZC r A U H) : va_Zq "jdk/internal/util/Preconditions" "SIOOBE_FORMATTER" "Ljava/util/function/BiFunction;" A U H := h.2.2.2.2.1
set_option maxHeartbeats 4000000 in
set_option maxRecDepth 100000 in
theorem mJ_coder {l : Launch} {D : va_G} {cA : Nat → ClassId} {r : Nat → Nat} {v : gV} {w : Nat} (hw : w < 12) : Ct l D (tysC cA) (shC cA r) 50 r (ZC r) yJ0_coder_7d493 cJ0_coder_7d493 1 (some .byte) rmJ0_coder_7d493 [.ref (r (100 + w))] v (some (.int 0)) v := by
  refine ct_of plJ0 ZC_ok (Nat.le_of_ble_eq_true rfl) (ls := [(0, .ref (r (100 + w)))]) rfl (fun G X => ?_)
  refine g_gets X zCS (Or.inl kf38) dJ0_coder_7d493_0 ?_
  refine g_if_eq X 13 dJ0_coder_7d493_3 (by decide) (fun c => absurd c (by decide)) (fun c => ?_)
  refine g_aload_n X dJ0_coder_7d493_6 rfl 0 rfl ?_
  refine g_getO X (zSC hw) kf15 dJ0_coder_7d493_7 ?_
  refine g_goto X 14 dJ0_coder_7d493_10 (by decide) ?_
  exact g_nret X rfl ⟨rfl, rfl⟩ dJ0_coder_7d493_14
set_option maxHeartbeats 4000000 in
set_option maxRecDepth 100000 in
theorem mJ_isLatin1 {l : Launch} {D : va_G} {cA : Nat → ClassId} {r : Nat → Nat} {v : gV} {w : Nat} (hw : w < 12) : Ct l D (tysC cA) (shC cA r) 50 r (ZC r) yJ0_isLatin1_aae02 cJ0_isLatin1_aae02 1 (some .boolean) rmJ0_isLatin1_aae02 [.ref (r (100 + w))] v (some (.int 1)) v := by
  refine ct_of plJ0 ZC_ok (Nat.le_of_ble_eq_true rfl) (ls := [(0, .ref (r (100 + w)))]) rfl (fun G X => ?_)
  refine g_gets X zCS (Or.inl kf38) dJ0_isLatin1_aae02_0 ?_
  refine g_if_eq X 17 dJ0_isLatin1_aae02_3 (by decide) (fun c => absurd c (by decide)) (fun c => ?_)
  refine g_aload_n X dJ0_isLatin1_aae02_6 rfl 0 rfl ?_
  refine g_getO X (zSC hw) kf15 dJ0_isLatin1_aae02_7 ?_
  refine g_if_ne X 17 dJ0_isLatin1_aae02_10 (by decide) (fun c => absurd rfl c) (fun c => ?_)
  refine g_iconst X 1 dJ0_isLatin1_aae02_13 (by decide) ?_
  refine g_goto X 18 dJ0_isLatin1_aae02_14 (by decide) ?_
  exact g_nret X rfl ⟨rfl, rfl⟩ dJ0_isLatin1_aae02_18
set_option maxHeartbeats 4000000 in
set_option maxRecDepth 100000 in
theorem mJ_length {l : Launch} {D : va_G} {cA : Nat → ClassId} {r : Nat → Nat} {v : gV} {w : Nat} (hw : w < 12) : Ct l D (tysC cA) (shC cA r) 50 r (ZC r) yJ0_length_8abf5 cJ0_length_8abf5 1 (some .int) rmJ0_length_8abf5 [.ref (r (100 + w))] v (some (.int (gwl w))) v := by
  refine ct_of plJ0 ZC_ok (Nat.le_of_ble_eq_true rfl) (ls := [(0, .ref (r (100 + w)))]) rfl (fun G X => ?_)
  refine g_aload_n X dJ0_length_8abf5_0 rfl 0 rfl ?_
  refine g_getO X (zSV hw) kf9 dJ0_length_8abf5_1 ?_
  refine g_alenB X (zST hw) (gwl w) rfl dJ0_length_8abf5_4 ?_
  refine g_aload_n X dJ0_length_8abf5_5 rfl 0 rfl ?_
  refine g_callO X (st := [.int (gwl w)]) (st' := [.int 0, .int (gwl w)]) kcJ0_coder_7d493 kvJ0_coder_7d493 kj335 (⟨rfl, rfl, by decide, by decide⟩) (mJ_coder hw) (zSO hw) rfl rfl (Nat.le_of_ble_eq_true rfl) rfl dJ0_length_8abf5_6 ?_
  refine g_ishr X dJ0_length_8abf5_9 ?_
  exact g_nret X rfl ⟨(gwl_ok w hw).1, rfl⟩ dJ0_length_8abf5_10
set_option maxHeartbeats 4000000 in
set_option maxRecDepth 100000 in
theorem mJ_ck3 {l : Launch} {D : va_G} {cA : Nat → ClassId} {r : Nat → Nat} {v : gV} {k n : Int32} {o : Option Nat} (h1 : ¬ k < 0) (h2 : k < n) : Ct l D (tysC cA) (shC cA r) 50 r (ZC r) yJ3_checkIndex_8e157 cJ3_checkIndex_8e157 3 (some .int) rmJ3_checkIndex_8e157 [.int k, .int n, va_rf o] v (some (.int k)) v := by
  refine ct_of plJ3 ZC_ok (by cases o <;> exact Nat.le_of_ble_eq_true rfl) (ls := [(0, .int k), (1, .int n), (2, va_rf o)]) (by cases o <;> rfl) (fun G X => ?_)
  refine g_iload_n X dJ3_checkIndex_8e157_0 rfl 0 rfl ?_
  refine g_if_lt X 9 dJ3_checkIndex_8e157_1 (by decide) (fun c => absurd c h1) (fun c => ?_)
  refine g_iload_n X dJ3_checkIndex_8e157_4 rfl 0 rfl ?_
  refine g_iload_n X dJ3_checkIndex_8e157_5 rfl 1 rfl ?_
  refine g_icmp_lt X 16 dJ3_checkIndex_8e157_6 (by decide) (fun c => ?_) (fun c => absurd h2 c)
  refine g_iload_n X dJ3_checkIndex_8e157_16 rfl 0 rfl ?_
  exact g_nret X rfl ⟨rfl, rfl⟩ dJ3_checkIndex_8e157_17
set_option maxHeartbeats 4000000 in
set_option maxRecDepth 100000 in
theorem mJ_ck0 {l : Launch} {D : va_G} {cA : Nat → ClassId} {r : Nat → Nat} {v : gV} {k n : Int32} (h1 : ¬ k < 0) (h2 : k < n) : Ct l D (tysC cA) (shC cA r) 50 r (ZC r) yJ0_checkIndex_df160 cJ0_checkIndex_df160 2 none rmJ0_checkIndex_df160 [.int k, .int n] v none v := by
  refine ct_of plJ0 ZC_ok (Nat.le_of_ble_eq_true rfl) (ls := [(0, .int k), (1, .int n)]) rfl (fun G X => ?_)
  refine g_iload_n X dJ0_checkIndex_df160_0 rfl 0 rfl ?_
  refine g_iload_n X dJ0_checkIndex_df160_1 rfl 1 rfl ?_
  refine g_getsQ X zFM kf1053 dJ0_checkIndex_df160_2 (fun o => ?_)
  refine g_callS X (st := []) (st' := [.int k]) kcJ3_checkIndex_8e157 ktJ3_checkIndex_8e157 kj1059 (⟨rfl, rfl, by decide, by decide⟩) (mJ_ck3 (o := o) h1 h2) rfl rfl (Nat.le_of_ble_eq_true rfl) rfl dJ0_checkIndex_df160_5 ?_
  refine g_pop X dJ0_checkIndex_df160_8 rfl ?_
  exact g_vretR (xr := ()) X rfl dJ0_checkIndex_df160_9
theorem gin_lo {x : Int32} {n : Nat} (h : gin x n = true) : ¬ x < 0 := fun q => gin_in h (Or.inl q)
theorem gin_hi {x : Int32} {n : Nat} (h : gin x n = true) (hn : n < 2 ^ 31) : x < Int32.ofNat n := by
  have h1 := of_decide_eq_true h
  rw [Int32.lt_iff_toInt_lt, show (Int32.ofNat n).toInt = (n : Int) from nI_toInt hn]
  exact h1.2
set_option maxHeartbeats 4000000 in
set_option maxRecDepth 100000 in
theorem mJ_ch1 {l : Launch} {D : va_G} {cA : Nat → ClassId} {r : Nat → Nat} {v : gV} {w : Nat} (hw : w < 12) {k : Int32} (hk : gin k (gWlen.getD w 0) = true) : Ct l D (tysC cA) (shC cA r) 50 r (ZC r) yJ1_charAt_3b067 cJ1_charAt_3b067 2 (some .char) rmJ1_charAt_3b067 [.ref (r (130 + w)), .int k] v (some (.int (gwc w k.toNatClampNeg))) v := by
  refine ct_of plJ1 ZC_ok (Nat.le_of_ble_eq_true rfl) (ls := [(0, .ref (r (130 + w))), (1, .int k)]) rfl (fun G X => ?_)
  have hg := gwc_ok w hw _ (gin_lt hk)
  refine g_iload_n X dJ1_charAt_3b067_0 rfl 1 rfl ?_
  refine g_aload_n X dJ1_charAt_3b067_1 rfl 0 rfl ?_
  refine g_alenB X (zST hw) (Int32.ofNat (gWlen.getD w 0)) rfl dJ1_charAt_3b067_2 ?_
  refine g_callS X (st := []) (st' := []) kcJ0_checkIndex_df160 ktJ0_checkIndex_df160 kj9 (⟨rfl, rfl, by decide, by decide⟩) (mJ_ck0 (gin_lo hk) (gin_hi hk (gwl_ok w hw).2)) rfl rfl (Nat.le_of_ble_eq_true rfl) rfl dJ1_charAt_3b067_3 ?_
  refine g_aload_n X dJ1_charAt_3b067_6 rfl 0 rfl ?_
  refine g_iload_n X dJ1_charAt_3b067_7 rfl 1 rfl ?_
  refine g_baldT X (zST hw) (gin_in hk) dJ1_charAt_3b067_8 ?_
  refine g_sipush X 255 dJ1_charAt_3b067_9 (by decide) ?_
  refine g_iand X dJ1_charAt_3b067_12 ?_
  refine g_i2c X (gwc w k.toNatClampNeg) dJ1_charAt_3b067_13 hg.1 ?_
  exact g_nret X hg.2 ⟨rfl, rfl⟩ dJ1_charAt_3b067_14
set_option maxHeartbeats 4000000 in
set_option maxRecDepth 100000 in
theorem mJ_charAt {l : Launch} {D : va_G} {cA : Nat → ClassId} {r : Nat → Nat} {v : gV} {w : Nat} (hw : w < 12) {k : Int32} (hk : gin k (gWlen.getD w 0) = true) : Ct l D (tysC cA) (shC cA r) 50 r (ZC r) yJ0_charAt_5068e cJ0_charAt_5068e 2 (some .char) rmJ0_charAt_5068e [.ref (r (100 + w)), .int k] v (some (.int (gwc w k.toNatClampNeg))) v := by
  refine ct_of plJ0 ZC_ok (Nat.le_of_ble_eq_true rfl) (ls := [(0, .ref (r (100 + w))), (1, .int k)]) rfl (fun G X => ?_)
  have hg := gwc_ok w hw _ (gin_lt hk)
  refine g_aload_n X dJ0_charAt_5068e_0 rfl 0 rfl ?_
  refine g_callO X (st := []) (st' := [.int 1]) kcJ0_isLatin1_aae02 kvJ0_isLatin1_aae02 kj492 (⟨rfl, rfl, by decide, by decide⟩) (mJ_isLatin1 hw) (zSO hw) rfl rfl (Nat.le_of_ble_eq_true rfl) rfl dJ0_charAt_5068e_1 ?_
  refine g_if_eq X 16 dJ0_charAt_5068e_4 (by decide) (fun c => absurd c (by decide)) (fun c => ?_)
  refine g_aload_n X dJ0_charAt_5068e_7 rfl 0 rfl ?_
  refine g_getO X (zSV hw) kf9 dJ0_charAt_5068e_8 ?_
  refine g_iload_n X dJ0_charAt_5068e_11 rfl 1 rfl ?_
  refine g_callS X (st := []) (st' := [.int (gwc w k.toNatClampNeg)]) kcJ1_charAt_3b067 ktJ1_charAt_3b067 kj495 (⟨rfl, rfl, by decide, by decide⟩) (mJ_ch1 hw hk) rfl rfl (Nat.le_of_ble_eq_true rfl) rfl dJ0_charAt_5068e_12 ?_
  exact g_nret X hg.2 ⟨rfl, rfl⟩ dJ0_charAt_5068e_15
theorem g_strlen {l : Launch} {D : va_G} {cA : Nat → ClassId} {r : Nat → Nat} {cc : ByteArray} {nL : Nat} {ret : Option FieldType} {rm : Room} {res : Option Value} {v' : gV} {G : gG} {v : gV} {ls : List (Nat × Value)} {pc : Nat} {st : List Value} (X : XC l D cA r RX3 cc nL ret rm res v' G) {w : Nat} (hw : w < 12) (hbig : 5 ≤ rm.frames ∧ 200 ≤ rm.locals) (hroom : (st.map fun v => v.category).sum ≤ 8) (hd : decode cc pc = .ok (.invokevirtual 103, 3)) (kk : G v ls (pc + 3) (.int (gwl w) :: st)) : G v ls pc (.ref (r (100 + w)) :: st) :=
  g_callO X (st' := .int (gwl w) :: st) kcJ0_length_8abf5 kvJ0_length_8abf5 kj103 ⟨rfl, rfl, Nat.le_trans (by decide) hbig.1, Nat.le_trans (by decide) hbig.2⟩ (mJ_length hw) (zSO hw) rfl rfl hroom rfl hd kk
theorem g_charAt {l : Launch} {D : va_G} {cA : Nat → ClassId} {r : Nat → Nat} {cc : ByteArray} {nL : Nat} {ret : Option FieldType} {rm : Room} {res : Option Value} {v' : gV} {G : gG} {v : gV} {ls : List (Nat × Value)} {pc : Nat} {st : List Value} (X : XC l D cA r RX3 cc nL ret rm res v' G) {w : Nat} (hw : w < 12) {k : Int32} (hk : gin k (gWlen.getD w 0) = true) (hbig : 5 ≤ rm.frames ∧ 200 ≤ rm.locals) (hroom : (st.map fun v => v.category).sum ≤ 8) (hd : decode cc pc = .ok (.invokevirtual 109, 3)) (kk : G v ls (pc + 3) (.int (gwc w k.toNatClampNeg) :: st)) : G v ls pc (.int k :: .ref (r (100 + w)) :: st) :=
  g_callO X (st' := .int (gwc w k.toNatClampNeg) :: st) kcJ0_charAt_5068e kvJ0_charAt_5068e kj109 ⟨rfl, rfl, Nat.le_trans (by decide) hbig.1, Nat.le_trans (by decide) hbig.2⟩ (mJ_charAt hw hk) (zSO hw) rfl rfl hroom rfl hd kk
theorem g_ldcS {l : Launch} {D : va_G} {cA : Nat → ClassId} {r : Nat → Nat} {cc : ByteArray} {nL : Nat} {ret : Option FieldType} {rm : Room} {res : Option Value} {v' : gV} {G : gG} {v : gV} {ls : List (Nat × Value)} {pc : Nat} {st : List Value} (X : XC l D cA r RX3 cc nL ret rm res v' G) {i : Nat} (hi : i < 12) (hd : decode cc pc = .ok (.ldc (113 + 2 * i), 2)) (kk : G v ls (pc + 2) (.ref (r (100 + i)) :: st)) : G v ls pc st := by
  obtain ⟨p, e, s, m, args, below, meth, c, A, ⟨hx, hb, hml, hown, hts⟩, hr, hlk, hK, hZ0, hZ, hA, rfl⟩ := X
  intro H locs la hP hD hS h
  exact va_ldcS hx hb hown (hZ0.2.2.2.1 i hi) hd (kk H locs la hP hD hS h)
theorem g_aretT {xr t : Nat} {c : String} {l : Launch} {D : va_G} {cA : Nat → ClassId} {r : Nat → Nat} {cc : ByteArray} {nL : Nat} {rm : Room} {v' : gV} {G : gG} {v : gV} {ls : List (Nat × Value)} {pc : Nat} (X : XC l D cA r RX3 cc nL (some (.object c)) rm (some (.ref (r (100 + xr)))) v' G) (h : some (t, v) = some (xr, v')) (hd : decode cc pc = .ok (.areturn, 1)) : G v ls pc [.ref (r (100 + t))] := by
  cases h
  exact g_aret X (a := some _) rfl (Or.inl ⟨_, rfl⟩) rfl rfl hd
