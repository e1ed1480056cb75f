/-! calls, and the end of a constructor -/
section NXC
variable {l : Launch} {D : va_G} {cA : Nat → ClassId} {own : String} {cc : ByteArray} {nL : Nat} {rm : Room} {P : nP} {G : nG}
variable {ws : va_W} {kc ns : Nat} {ls : List (Nat × Value)} {pc : Nat} {st : List Value}
def nQ (D : va_G) (cA : Nat → ClassId) (W1 : (Nat → Nat) → va_W) (A : Nat → Prop) : Array Value → State → Outcome → State → Prop := va_Qv (fun _ : Nat → Nat => True) (fun qs t => va_P D vwCl (W1 qs) t.heap ∧ va_K D vwCl (tysC cA) t ∧ va_D A (W1 qs)) A
/-- a constructor's contract: from the cells W0 to the cells W1 at some addresses -/
def Cn (l : Launch) (D : va_G) (cA : Nat → ClassId) (y : MethodName) (cc : ByteArray) (nL : Nat) (rm : Room) (as : List Value) (W0 : va_W) (W1 : (Nat → Nat) → va_W) : Prop :=
  ∀ sz : Nat, Met l y (.code y cc nL none :: gw) rm (va_Pc as (fun U => U.heap.size = sz ∧ va_P D vwCl W0 U.heap ∧ va_K D vwCl (tysC cA) U ∧ va_D (fun _ => True) W0 ∧ Zn U)) (nQ D cA W1 (va_A W0 sz)) rm.cells rm.slots (va_A W0 sz)
def nE (D : va_G) (cA : Nat → ClassId) (rm : Room) (W1 : (Nat → Nat) → va_W) : nP := fun _ _ s _ args below meth _ A Q => (meth.sig.returnType = none ∧ meth.locks = false ∧ meth.name = "<init>") ∧ Q = MQ below (nQ D cA W1 A) args s rm.cells rm.slots A
theorem cn_of {y : MethodName} {as : List Value} {W0 : va_W} {W1 : (Nat → Nat) → va_W} (hy : plainName y.cls = true) (hyn : y.name = "<init>") (hn : (lg_sl as).length ≤ nL) {ls : List (Nat × Value)} (hls : lv_args 0 as = ls)
    (body : ∀ G : nG, NX l D cA y.cls cc nL rm (nE D cA rm W1) G → G W0 0 0 ls 0 []) : Cn l D cA y cc nL rm as W0 W1 := by
  intro sz
  refine Met.ofW (cc := cc) (maxL := nL) (ret := none) hy rfl ?_
  intro p e s m args below meth c s₁ B hml hv
  obtain ⟨rfl, hsz, hP, hK, hD0, hZ0⟩ := hv
  have hts := atoms_spec (ws := .code y cc nL none :: gw) B.pre
  have hin : meth.name = "<init>" := by rw [← hyn]; exact (name_of_methodNamed B.named B.method).1
  subst hsz
  subst hls
  have hD := hD0.self (sz := s.heap.size)
  have hl := lv_entry as (n := nL) hn
  rw [lg_entry_eq]
  exact body _ ⟨p, e, s, m, _, below, meth, c, va_A W0 s.heap.size, _, ⟨B.exec, B.bytes, hml, findClass_of_methodNamed B.named, fun w hw => hts w (List.mem_cons_of_mem _ hw)⟩, hK, hZ0, fun q h => Or.inr h, ⟨⟨B.returns, B.notSynchronized, hin⟩, rfl⟩, rfl⟩ s.heap [] _ hP hD va_S.rf hl
theorem nE_in {W1 : (Nat → Nat) → va_W} : ∀ p e s m args below meth c A Q, nE D cA rm W1 p e s m args below meth c A Q → meth.name = "<init>" := fun _ _ _ _ _ _ _ _ _ _ h => h.1.2.2
theorem n_vret {W1 : (Nat → Nat) → va_W} (X : NX l D cA own cc nL rm (nE D cA rm W1) G) (qs : Nat → Nat) (hw : ws = W1 qs) (h1 : kc ≤ rm.cells) (h2 : ns ≤ rm.slots) (hd : decode cc pc = .ok (.return_, 1)) : G ws kc ns ls pc [] := by
  obtain ⟨p, e, s, m, args, below, meth, c, A, Q, ⟨hx, hb, hml, hown, hts⟩, hK, hZ0, hA, ⟨⟨hr, hlk, -⟩, rfl⟩, rfl⟩ := X
  subst hw
  intro H locs la hP hD hS h
  refine W.widen h1 h2 ?_
  exact W.vret hx hb hr (fun t ht hW => ⟨⟨qs, rfl, trivial, by rw [ht]; exact hP, va_K.moved hW.alike hK, hD⟩, hS.F ht⟩) hS.2.2 hd
/-- X.<init> -/
theorem n_init (X : NX l D cA own cc nL rm P G) {y : MethodName} {bytes : ByteArray} {nLY n index b : Nat} {rmY : Room} {As stk : List Value} {W0 wr : va_W} {W1 : (Nat → Nat) → va_W} (isC isR : List Nat)
    (hcal : gCal y bytes nLY none n) (hyn : y.name = "<init>") (hinst : Cond.instanceMethod y ∈ gw) (hlnk : gLnk own index y) (hrm : rmY.frames + 1 ≤ rm.frames ∧ 8 + (nLY + 11) + rmY.locals ≤ rm.locals) (hM : Cn l D cA y bytes nLY rmY (.ref b :: As) W0 W1)
    (hC : isC.map (fun i => ws[i]?) = W0.map some) (hR : isR.map (fun i => ws[i]?) = wr.map some) (hnC : va_nd isC = true) (hnR : va_nd isR = true) (hdis : ∀ i ∈ isR, i ∉ isC) (hn : As.length = n) (hstk : As.reverse ++ .ref b :: st = stk) (hroom : (st.map fun v => v.category).sum ≤ 8) (h1 : kc + rmY.cells ≤ rm.cells) (h2 : ns + rmY.slots ≤ rm.slots) (hd : decode cc pc = .ok (.invokespecial index, 3))
    (kk : ∀ qs : Nat → Nat, G (wr ++ W1 qs) (kc + rmY.cells) (ns + rmY.slots) ls (pc + 3) st) : G ws kc ns ls pc stk := by
  obtain ⟨p, e, s, m, args, below, meth, c, A, Q, ⟨hx, hb, hml, hown, hts⟩, hK, hZ0, hA, hPq, rfl⟩ := X
  intro H locs la hP hD hS h
  obtain ⟨hini, hcode, hdd⟩ := hcal
  have hg : GoodIn gw (Cond.code y bytes nLY none :: gw) := fun w hw => (List.mem_cons.mp hw).elim (fun q => by rw [q]; exact gw_good _ hcode) (gw_good w)
  have hPc := pick_P hP hC
  have hDc := hD.sub isC hnC hC
  have hFc := va_free hD hS hA isC hC
  have hpre : PreS s H (va_Pc (.ref b :: As) (fun U => U.heap.size = H.size ∧ va_P D vwCl W0 U.heap ∧ va_K D vwCl (tysC cA) U ∧ va_D (fun _ => True) W0 ∧ Zn U)) (.ref b :: As) :=
    ⟨fun a U g mk q => by
      obtain ⟨z0, z1, z2, z3, z4, z5⟩ := q
      exact ⟨z0, z1, z2, va_K.moved (u := U) (U := U.calling g mk a) (Vm.Alike.refl U.vm) z3, z4, Zn.same (u := U) (U := U.calling g mk a) rfl z5⟩,
     fun U hU hW => ⟨rfl, by rw [hU], by rw [hU]; exact hPc, va_K.moved hW.alike hK, hDc.weaken (fun _ _ _ _ => trivial), Zn.warm hW hZ0⟩⟩
  have go : ∀ hrun : va_Run p l e rm s m args below meth c H locs kc ns rmY.cells rmY.slots (F0 m pc la stk) st (nQ D cA W1 (va_A W0 H.size) (Value.ref b :: As).toArray) (va_A W0 H.size), W p l e rm s m args below meth c H locs kc ns Q (F0 m pc la stk) := fun hrun =>
    va_callv hrun hS (fun q _ h => hFc q h) hFc (fun qs t H1 locs1 ht hvm _ hB hz1 hk1 hS1 => by
      obtain ⟨hP1, hK1, hD1⟩ := hB
      rw [ht] at hP1
      obtain ⟨hP2, hD2⟩ := va_join hP hD isC isR hC hR hnR hdis hk1 hFc hP1 hD1
      exact kk qs H1 locs1 la hP2 hD2 hS1 h)
  rcases hlnk with hl | ⟨host, hl⟩
  · exact go (va_runI (nL := nL) ⟨hx, hb, hml, hown, hts⟩ (hM H.size) ⟨callB_of n hts hg rfl rfl rfl (hts _ hini) (hts _ hl) hdd ⟨hrm.1, hrm.2⟩, hyn, hts _ hinst⟩ hpre rfl hn h.1 hstk.symm (lv_room hroom) hd ⟨h1, h2⟩)
  · exact go (va_runIN (nL := nL) ⟨hx, hb, hml, hown, hts⟩ (hM H.size) ⟨va_cnB n hts hg rfl rfl rfl (hZ0.1 _ hl) (hts _ hini) hdd ⟨hrm.1, hrm.2⟩, hyn, hts _ hinst⟩ hpre rfl hn h.1 hstk.symm (lv_room hroom) hd ⟨h1, h2⟩)
/-- a method of an object whose world stands among the cells -/
theorem n_callV (X : NX l D cA own cc nL rm P G) {y : MethodName} {bytes : ByteArray} {nLY n index b q0 ci nC N : Nat} {T : u_T} {retY : Option FieldType} {rmY : Room} {As stk st' fs : List Value} {tys : gT} {sh : gSh} {r : Nat → Nat} {Z : gZ} {v v1 : gV} {resY : Option Value} {wr : va_W} (isC isR : List Nat) (tis : List Nat)
    (hcal : gCal y bytes nLY retY n) (hvir : gVir y) (hlnk : gLnk own index y) (hrm : gRm rm rmY nLY) (hM : Ct l D tys sh N r Z y bytes nLY retY rmY (.ref b :: As) v resY v1) (hty : tis.filterMap (fun i => (tysC cA)[i]?) = tys) (hZ : gZok Z) (hZ1 : ∀ p e s m args below meth c A Q, P p e s m args below meth c A Q → Zn s → Z A s s.heap)
    (hC : isC.map (fun i => ws[i]?) = (cw sh N r v).map some) (hR : isR.map (fun i => ws[i]?) = wr.map some) (hnC : va_nd isC = true) (hnR : va_nd isR = true) (hdis : ∀ i ∈ isR, i ∉ isC) (he : ws[q0]? = some (b, .inr (ci, fs))) (hc : vwCl[ci]? = some (y.cls, T, nC)) (hn : As.length = n) (hstk : As.reverse ++ .ref b :: st = stk) (hroom : (st.map fun v => v.category).sum ≤ 8) (hres : resY.toList ++ st = st') (h1 : kc ≤ rm.cells) (h2 : ns ≤ rm.slots) (hd : decode cc pc = .ok (.invokevirtual index, 3))
    (kk : G (wr ++ cw sh N r v1) kc ns ls (pc + 3) st') : G ws kc ns ls pc stk := by
  obtain ⟨p, e, s, m, args, below, meth, c, A, Q, ⟨hx, hb, hml, hown, hts⟩, hK, hZ0, hA, hPq, rfl⟩ := X
  subst hres
  intro H locs la hP hD hS h
  obtain ⟨hini, hcode, hdd⟩ := hcal
  have hg : GoodIn gw (Cond.code y bytes nLY retY :: gw) := fun w hw => (List.mem_cons.mp hw).elim (fun q => by rw [q]; exact gw_good _ hcode) (gw_good w)
  have hPc := pick_P hP hC
  have hDc := hD.sub isC hnC hC
  have hKc := hK.sub tis hty
  have hFc0 := va_free hD hS hA isC hC
  have hFc : ∀ q, gA N r H.size q → A q := fun q hq => hFc0 q (gA_A.mpr hq)
  have hz := hZ1 _ _ _ _ _ _ _ _ _ _ hPq hZ0
  have hpre : PreV s H y.cls b (va_Pc (.ref b :: As) (fun U => U.heap.size = H.size ∧ va_P D vwCl (cw sh N r v) U.heap ∧ va_K D vwCl tys U ∧ va_D (fun _ => True) (cw sh N r v) ∧ Z (gA N r H.size) U U.heap)) As :=
    ⟨g_blind hZ, va_recv hK hP (q0 := q0) hc he, fun U hU hW => ⟨rfl, by rw [hU], by rw [hU]; exact hPc, va_K.moved hW.alike hKc, hDc.weaken (fun _ _ _ _ => trivial), by
      rw [hU]
      exact hZ.1.2 _ _ _ _ hW (hZ.2.2.1 _ _ _ _ (hZ.2.1 _ _ _ _ hz hS.2.1) hFc)⟩⟩
  have go : ∀ hrun : va_Run p l e rm s m args below meth c H locs kc ns 0 0 (F0 m pc la stk) st (QW D tys sh N r (gA N r H.size) resY v1 (Value.ref b :: As).toArray) (gA N r H.size), W p l e rm s m args below meth c H locs kc ns Q (F0 m pc la stk) := fun hrun => by
    intro T0 hT X0
    obtain ⟨v0, st₀, t, T', L, h0, X', hL, e1, e2, ⟨hres, ⟨hP1, hK1, hD1⟩, hz1, hk1⟩, stp⟩ := hrun T0 hT X0
    cases hres
    rw [h0] at hz1 hk1
    rw [← e1] at hz1 hk1 hP1
    obtain ⟨hP2, hD2⟩ := va_join (wc := cw sh N r v) hP hD isC isR hC hR hnR hdis (fun q a b => hk1 q a (fun z => b (gA_A.mpr z))) hFc0 hP1 (hD1.weaken (fun _ _ _ h => gA_A.mpr h))
    obtain ⟨t2, a1, b1⟩ := kk T'.heap (locs ++ L) la hP2 hD2 ⟨Nat.le_trans hS.1 hz1, fun q a b => by rw [hk1 q (Nat.lt_of_lt_of_le a hS.1) (fun z => b (hFc q z))]; exact hS.2.1 q a b, fun q hq => by
      rcases List.mem_append.mp hq with h | h
      · exact hS.2.2 q h
      · exact hFc _ (hL q h)⟩ h T' rfl X'
    exact ⟨t2, stp t2 a1, b1⟩
  rcases hlnk with hl | ⟨host, hl⟩
  · exact go (va_runV (nL := nL) ⟨hx, hb, hml, hown, hts⟩ (hM H.size) ⟨callB_of n hts hg rfl hrm.1 hrm.2.1 (hts _ hini) (hts _ hl) hdd ⟨hrm.2.2.1, hrm.2.2.2⟩, hts _ hvir.1, hts _ hvir.2⟩ hpre rfl hn h.1 hstk.symm (lv_room hroom) hd ⟨h1, h2⟩)
  · exact go (va_runVN (nL := nL) ⟨hx, hb, hml, hown, hts⟩ (hM H.size) ⟨va_cnB n hts hg rfl hrm.1 hrm.2.1 (hZ0.1 _ hl) (hts _ hini) hdd ⟨hrm.2.2.1, hrm.2.2.2⟩, hts _ hvir.1, hts _ hvir.2⟩ hpre rfl hn h.1 hstk.symm (lv_room hroom) hd ⟨h1, h2⟩)
/-- an array of arrays behaves alike, whatever stands beyond its end -/
theorem arrQ {c : ClassId} {n : Nat} {f g : Nat → Option Nat} (h : ∀ j, j < n → f j = g j) : vp_cell c (n, .inr (.inr (.inr (.inr f)))) = vp_cell c (n, .inr (.inr (.inr (.inr g)))) := by
  rw [vp_cell_q, vp_cell_q]
  unfold arrV
  congr 1
  congr 1
  funext j
  show va_rf (f j.1) = va_rf (g j.1)
  rw [h j.1 j.2]
theorem n_arrQ (X : NX l D cA own cc nL rm P G) (q0 : Nat) {b n : Nat} {c0 : ClassId} {f : Nat → Option Nat} (g : Nat → Option Nat) (he : ws[q0]? = some (b, .inl (c0, n, .inr (.inr (.inr (.inr f)))))) (h : ∀ j, j < n → f j = g j) (kk : G (ws.set q0 (b, .inl (c0, n, .inr (.inr (.inr (.inr g)))))) kc ns ls pc st) : G ws kc ns ls pc st := by
  obtain ⟨p, e, s, m, args, below, meth, c, A, Q, ⟨hx, hb, hml, hown, hts⟩, hK, hZ0, hA, hPq, rfl⟩ := X
  intro H locs la hP hD hS hl
  refine kk H locs la (fun k q hk => ?_) (hD.set he) hS hl
  by_cases e0 : q0 = k
  · subst e0
    have hlt : q0 < ws.length := (List.getElem?_eq_some_iff.mp he).1
    rw [List.getElem?_set_self hlt] at hk
    cases hk
    have h0 : H[b]? = some (vp_cell c0 (n, .inr (.inr (.inr (.inr f))))) := hP q0 _ he
    show H[b]? = some (vp_cell c0 (n, .inr (.inr (.inr (.inr g)))))
    rw [h0, arrQ h]
  · rw [List.getElem?_set_ne e0] at hk
    exact hP k q hk
theorem n_mna (X : NX l D cA own cc nL rm P G) {x y : Int32} {index : Nat} (N' K' : Nat) (hl : Cond.classLink own index "[[I" ∈ gw) (ha : Cond.arrayClass .int ∈ gw) (hn : ¬ x < 0) (hk : ¬ y < 0) (hN : x.toNatClampNeg = N') (hM : y.toNatClampNeg = K') (hb1 : N' * 4 ≤ 536870912) (hb2 : K' * 4 ≤ 536870912) (hb3 : K' ≤ 536870912) (h1 : kc + (1 + N') ≤ rm.cells) (h2 : ns + (N' + N' * K') ≤ rm.slots) (hd : decode cc pc = .ok (.multianewarray index 2, 4))
    (kk : ∀ (q : Nat) (r : Nat → Nat), G ((ws ++ [(q, .inl (cA 2, N', .inr (.inr (.inr (.inr (fun i => if i < N' then some (r i) else none))))))]) ++ (List.range N').map (fun i => (r i, .inl (cA 0, K', .inl (fun _ => 0))))) (kc + 1 + N') (ns + N' + N' * K') ls (pc + 4) (.ref q :: st)) : G ws kc ns ls pc (.int y :: .int x :: st) := by
  obtain ⟨p, e, s, m, args, below, meth, c, A, Q, ⟨hx, hb, hml, hown, hts⟩, hK, hZ0, hA, hPq, rfl⟩ := X
  intro H locs la hP hD hS h
  have e0 : s.vm.findClass (FieldType.array .int).toString = some (cA 0) := (hK.2 0 (cA 0, .int) rfl).2
  have e2 : s.vm.findClass ("[" ++ (FieldType.array .int).toString) = some (cA 2) := (hK.2 2 (cA 2, .array .int) rfl).2
  have hpl : va_pl ([] : List Nat) (fun _ => (.inl (cA 0, K', .inl (fun _ => 0)) : va_E)) = [] := rfl
  refine va_mna (X := ws) (L := []) (f := fun _ => .inl (cA 0, K', .inl (fun _ => 0))) (ty := .int) (cy := cA 0) (z := (K', .inl (fun _ => 0))) hx hb hown (hts _ hl) hZ0.2.2 (hts _ ha) e0 hK (by rw [hpl, List.append_nil]; exact hP) (by rw [hpl, List.append_nil]; exact hD) hS hA hn hk hN hM hb1 hb2 hb3 rfl rfl h1 h2 (fun c => ?_) hd (fun q r c' H1 hinj _ hK1 hP1 hD1 hS1 => ?_)
  · show Jvm.Free.Multi.innerC c K' (.int 0) = arrV c K' (fun _ => .int 0)
    unfold Jvm.Free.Multi.innerC
    exact arrV_new c K' (.int 0)
  · have e3 : s.vm.findClass ("[" ++ (FieldType.array .int).toString) = some c' := (hK1.2 3 (c', .array .int) rfl).2
    have e4 : cA 2 = c' := Option.some.inj (e2.symm.trans e3)
    subst e4
    have hrow : va_pl ([] ++ (List.range N').map r) (vr_up (fun _ => (.inl (cA 0, K', .inl (fun _ => 0)) : va_E)) ((List.range N').map r) (.inl (cA 0, (K', .inl (fun _ => 0))))) = (List.range N').map (fun i => (r i, .inl (cA 0, K', .inl (fun _ => 0)))) := by
      unfold va_pl
      rw [List.nil_append, List.map_map]
      apply List.map_congr_left
      intro i hi
      show (r i, vr_up _ _ _ (r i)) = _
      unfold vr_up
      rw [if_pos (List.mem_map_of_mem hi)]
    rw [hrow] at hP1 hD1
    exact kk q r H1 locs la hP1 hD1 hS1 h
theorem n_perm (X : NX l D cA own cc nL rm P G) (is : List Nat) {ws' : va_W} (h : is.map (fun i => ws[i]?) = ws'.map some) (hn : va_nd is = true) (kk : G ws' kc ns ls pc st) : G ws kc ns ls pc st := by
  obtain ⟨p, e, s, m, args, below, meth, c, A, Q, ⟨hx, hb, hml, hown, hts⟩, hK, hZ0, hA, hPq, rfl⟩ := X
  intro H locs la hP hD hS hl
  exact kk H locs la (pick_P hP h) (hD.sub is hn h) hS hl
end NXC
