/-! what the tables say of a field: class ci's slot k, by the pool's place index of own's file -/
def gFld (own : String) (index ci k : Nat) : Prop := ∃ (C : String) (T : u_T) (n : Nat), vwCl[ci]? = some (C, T, n) ∧ (∀ w ∈ u_ws C T n, w ∈ gw) ∧ k < n ∧
  (Cond.fieldLink own index (T k).1 (T k).2.1 (T k).2.2.1 ∈ gw ∨ ∃ host, Cond.fieldLinkNest own index (T k).1 (T k).2.1 (T k).2.2.1 host ∈ gnest)
def gFldP (own : String) (index ci k : Nat) (ty : FieldType) : Prop := ∃ (C : String) (T : u_T) (n : Nat) (ty0 : Nat → FieldType), vwCl[ci]? = some (C, T, n) ∧ (∀ w ∈ u_ws C T n, w ∈ gw) ∧ k < n ∧
  (∀ k, k < n → parseFieldDescriptor (T k).2.2.1 = some (ty0 k)) ∧ (∀ a, a < n → ∀ b, b < n → a ≠ b → (T a).2.1 ≠ (T b).2.1) ∧ (T k).2.2.2 = false ∧ ty0 k = ty ∧
  (Cond.fieldLink own index (T k).1 (T k).2.1 (T k).2.2.1 ∈ gw ∨ ∃ host, Cond.fieldLinkNest own index (T k).1 (T k).2.1 (T k).2.2.1 host ∈ gnest)
/-- a callee: its words -/
def gCal (y : MethodName) (cc : ByteArray) (nL : Nat) (ret : Option FieldType) (n : Nat) : Prop :=
  Cond.initialized y.cls ∈ gw ∧ Cond.code y cc nL ret ∈ gw ∧ y.cls ≠ "java/lang/invoke/MethodHandle" ∧ y.cls ≠ "java/lang/invoke/VarHandle" ∧ (parseMethodDescriptor y.desc).map (fun d => d.parameters.length) = some n
def gVir (y : MethodName) : Prop := Cond.instanceMethod y ∈ gw ∧ Cond.selects y.cls y y ∈ gw
def gLnk (own : String) (index : Nat) (y : MethodName) : Prop := Cond.methodLink own index y ∈ gw ∨ ∃ host, Cond.methodLinkNest own index y host ∈ gnest
/-- the room of a callee that makes nothing, within a caller's -/
def gRm (rm rmY : Room) (nL : Nat) : Prop := rmY.cells = 0 ∧ rmY.slots = 0 ∧ rmY.frames + 1 ≤ rm.frames ∧ 8 + (nL + 11) + rmY.locals ≤ rm.locals
section GY
variable {l : Launch} {D : va_G} {tys : gT} {sh : gSh} {N : Nat} {r : Nat → Nat} {Z : gZ} {own : String} {cc : ByteArray} {nL : Nat} {ret : Option FieldType} {rm : Room} {res : Option Value} {v' : gV} {G : gG}
variable {v : gV} {ls : List (Nat × Value)} {pc : Nat} {st : List Value}
theorem g_get (X : CX l D tys sh N r Z own cc nL ret rm res v' G) {index i ci k : Nat} {fs : List Value} {a : Value} (hf : gFld own index ci k) (hi : i < N) (hs : sh i (v i) = .inr (ci, fs)) (ha : fs[k]? = some a) (hd : decode cc pc = .ok (.getfield index, 3)) (kk : G v ls (pc + 3) (a :: st)) : G v ls pc (.ref (r i) :: st) := by
  obtain ⟨p, e, s, m, args, below, meth, c, A, ⟨hx, hb, hml, hown, hts⟩, hr, hlk, hK, hZ0, hZ, hA, rfl⟩ := X
  obtain ⟨C, T, n, hc, hin, hk, hl⟩ := hf
  intro H locs la hP hD hS h
  have he : (cw sh N r v)[i]? = some (r i, .inr (ci, fs)) := by rw [cw_get hi, hs]
  rcases hl with hl | ⟨host, hl⟩
  · exact va_get hx hb hts hin hown hK hP i he hc k hk (hts _ hl) (fun _ q => q) ha hd (kk H locs la hP hD hS h)
  · exact va_getN hx hb hts hin hown hK hP i he hc k hk ((hZ.2.2.2 _ _ _ hZ0).use hl) (fun _ q => q) ha hd (kk H locs la hP hD hS h)
theorem g_putV (X : CX l D tys sh N r Z own cc nL ret rm res v' G) {index i ci k : Nat} {fs fs' : List Value} {a : Value} {ty : FieldType} {f' : Nat → Int32} (hf : gFldP own index ci k ty) (hi : i < N) (hs : sh i (v i) = .inr (ci, fs)) (hs' : sh i f' = .inr (ci, fs')) (hset : fs.set k a = fs') (hk2 : k < fs.length) (hn : narrow ty a = a) (hfit : fits ty a = true) (hd : decode cc pc = .ok (.putfield index, 3)) (kk : G (up2 v i f') ls (pc + 3) st) : G v ls pc (a :: .ref (r i) :: st) := by
  obtain ⟨p, e, s, m, args, below, meth, c, A, ⟨hx, hb, hml, hown, hts⟩, hr, hlk, hK, hZ0, hZ, hA, rfl⟩ := X
  obtain ⟨C, T, n, ty0, hc, hin, hk, hty, hnm, hfin, het, hl⟩ := hf
  intro H locs la hP hD hS h
  subst hset
  have he : (cw sh N r v)[i]? = some (r i, .inr (ci, fs)) := by rw [cw_get hi, hs]
  have hset : (cw sh N r v).set i (r i, .inr (ci, fs.set k a)) = cw sh N r (up2 v i f') := by rw [← hs', cw_set hi]
  have hpd : parseFieldDescriptor (T k).2.2.1 = some ty := by rw [hty k hk, het]
  rcases hl with hl | ⟨host, hl⟩
  · refine va_put hx hb hts hin ty0 hty hnm hown hK hP hD hS i he hc k hk (hts _ hl) (fun _ q => q) hfin hpd hn hfit hk2 hd (fun H1 locs1 hP1 hD1 hS1 => ?_)
    rw [hset] at hP1 hD1
    exact kk H1 locs1 la hP1 hD1 hS1 h
  · refine va_putN hx hb hts hin ty0 hty hnm hown hK hP hD hS i he hc k hk ((hZ.2.2.2 _ _ _ hZ0).use hl) (fun _ q => q) hfin hpd hn hfit hk2 hd (fun H1 locs1 hP1 hD1 hS1 => ?_)
    rw [hset] at hP1 hD1
    exact kk H1 locs1 la hP1 hD1 hS1 h
/-- an int field -/
theorem g_put (X : CX l D tys sh N r Z own cc nL ret rm res v' G) {index i ci k : Nat} {x : Int32} (fs : (Nat → Int32) → List Value) (hf : gFldP own index ci k .int) (hi : i < N) (hs : ∀ f, sh i f = .inr (ci, fs f)) (hset : ∀ f, (fs f).set k (.int x) = fs (upd f k x)) (hk2 : k < (fs (v i)).length) (hd : decode cc pc = .ok (.putfield index, 3)) (kk : G (up1 v i k x) ls (pc + 3) st) : G v ls pc (.int x :: .ref (r i) :: st) :=
  g_putV X hf hi (hs _) (hs (upd (v i) k x)) (hset _) hk2 rfl rfl hd kk
/-- a boolean field -/
theorem g_putZ (X : CX l D tys sh N r Z own cc nL ret rm res v' G) {index i ci k : Nat} {x : Int32} (fs : (Nat → Int32) → List Value) (hf : gFldP own index ci k .boolean) (hi : i < N) (hs : ∀ f, sh i f = .inr (ci, fs f)) (hset : ∀ f, (fs f).set k (.int x) = fs (upd f k x)) (hk2 : k < (fs (v i)).length) (hx : x = 0 ∨ x = 1) (hd : decode cc pc = .ok (.putfield index, 3)) (kk : G (up1 v i k x) ls (pc + 3) st) : G v ls pc (.int x :: .ref (r i) :: st) :=
  g_putV X hf hi (hs _) (hs (upd (v i) k x)) (hset _) hk2 (by rcases hx with rfl | rfl <;> rfl) (by rcases hx with rfl | rfl <;> rfl) hd kk
theorem g_iald (X : CX l D tys sh N r Z own cc nL ret rm res v' G) {i n : Nat} {cA : ClassId} {x : Int32} (hi : i < N) (hs : sh i (v i) = .inl (cA, n, .inl (v i))) (ht : tys[0]? = some (cA, .int)) (hin : vp_in x n) (hd : decode cc pc = .ok (.iaload, 1)) (kk : G v ls (pc + 1) (.int (v i x.toNatClampNeg) :: st)) : G v ls pc (.int x :: .ref (r i) :: st) := by
  obtain ⟨p, e, s, m, args, below, meth, c, A, ⟨hx, hb, hml, hown, hts⟩, hr, hlk, hK, hZ0, hZ, hA, rfl⟩ := X
  intro H locs la hP hD hS h
  exact va_iald hx hb hK hP i 0 (by rw [cw_get hi, hs]) ht hin hd (kk H locs la hP hD hS h)
theorem g_iast (X : CX l D tys sh N r Z own cc nL ret rm res v' G) {i n : Nat} {cA : ClassId} {x y : Int32} (hi : i < N) (hs : ∀ f, sh i f = .inl (cA, n, .inl f)) (ht : tys[0]? = some (cA, .int)) (hin : vp_in x n) (hd : decode cc pc = .ok (.iastore, 1)) (kk : G (up1 v i x.toNatClampNeg y) ls (pc + 1) st) : G v ls pc (.int y :: .int x :: .ref (r i) :: st) := by
  obtain ⟨p, e, s, m, args, below, meth, c, A, ⟨hx, hb, hml, hown, hts⟩, hr, hlk, hK, hZ0, hZ, hA, rfl⟩ := X
  intro H locs la hP hD hS h
  refine va_iast hx hb hK hP hD hS i 0 (by rw [cw_get hi, hs]) ht hin hd (fun H1 locs1 hP1 hD1 hS1 => ?_)
  rw [← hs, cw_set hi] at hP1 hD1
  exact kk H1 locs1 la hP1 hD1 hS1 h
theorem g_alen (X : CX l D tys sh N r Z own cc nL ret rm res v' G) {i t0 : Nat} {cA : ClassId} {q : vp_A} {ty : FieldType} (x : Int32) (hi : i < N) (hs : sh i (v i) = .inl (cA, q)) (ht : tys[t0]? = some (cA, ty)) (hx : Int32.ofNat q.1 = x) (hd : decode cc pc = .ok (.arraylength, 1)) (kk : G v ls (pc + 1) (.int x :: st)) : G v ls pc (.ref (r i) :: st) := by
  obtain ⟨p, e, s, m, args, below, meth, c, A, ⟨hx0, hb, hml, hown, hts⟩, hr, hlk, hK, hZ0, hZ, hA, rfl⟩ := X
  intro H locs la hP hD hS h
  exact va_alen hx0 hb hK hP i t0 (by rw [cw_get hi, hs]) ht hx hd (kk H locs la hP hD hS h)
theorem g_aald (X : CX l D tys sh N r Z own cc nL ret rm res v' G) {i n t0 b : Nat} {cA : ClassId} {ty : FieldType} {f : Nat → Option Nat} {x : Int32} (hi : i < N) (hs : sh i (v i) = .inl (cA, n, .inr (.inr (.inr (.inr f))))) (ht : tys[t0]? = some (cA, ty)) (hty : ty.isReference = true) (hin : vp_in x n) (hfb : f x.toNatClampNeg = some b) (hd : decode cc pc = .ok (.aaload, 1)) (kk : G v ls (pc + 1) (.ref b :: st)) : G v ls pc (.int x :: .ref (r i) :: st) := by
  obtain ⟨p, e, s, m, args, below, meth, c, A, ⟨hx, hb, hml, hown, hts⟩, hr, hlk, hK, hZ0, hZ, hA, rfl⟩ := X
  intro H locs la hP hD hS h
  have hlt : x.toNatClampNeg < n := Nat.not_le.mp fun q => hin (Or.inr q)
  have hc : H[r i]? = some (vp_cell cA (n, .inr (.inr (.inr (.inr f))))) := by
    have h1 := hP i (r i, sh i (v i)) (cw_get hi)
    rw [hs] at h1
    exact h1
  exact W.aald (v := .ref b) (ty := ty) hx hb hc ((hK.2 t0 _ ht).1 n (fun j => va_rf (f j))) hty (fun q => by cases q) (by show ¬ (x < 0 ∨ (arrV _ _ _).slots.size ≤ _); rw [arrV_size]; exact hin) (by show (arrV _ _ _).slots[_]? = _; rw [arrV_read _ _ hlt, hfb]; rfl) rfl rfl hd (kk H locs la hP hD hS h)
theorem g_iret (X : CX l D tys sh N r Z own cc nL (some .int) rm res v' G) {x : Int32} (hr : res = some (.int x)) (hv : v' = v) (hd : decode cc pc = .ok (.ireturn, 1)) : G v ls pc [.int x] := by
  obtain ⟨p, e, s, m, args, below, meth, c, A, ⟨hx, hb, hml, hown, hts⟩, hr0, hlk, hK, hZ0, hZ, hA, rfl⟩ := X
  subst hr; subst hv
  intro H locs la hP hD hS h
  exact W.iret hx hb hr0 (fun t ht hW => ⟨rfl, ⟨by rw [ht]; exact hP, va_K.moved hW.alike hK, hD⟩, hS.F ht⟩) hS.2.2 hd
theorem g_zret (X : CX l D tys sh N r Z own cc nL (some .boolean) rm res v' G) {x : Int32} (hz : x = 0 ∨ x = 1) (hr : res = some (.int x)) (hv : v' = v) (hd : decode cc pc = .ok (.ireturn, 1)) : G v ls pc [.int x] := by
  obtain ⟨p, e, s, m, args, below, meth, c, A, ⟨hx, hb, hml, hown, hts⟩, hr0, hlk, hK, hZ0, hZ, hA, rfl⟩ := X
  subst hr; subst hv
  intro H locs la hP hD hS h
  exact W.zret hx hb hr0 (by rcases hz with rfl | rfl <;> rfl) (fun t ht hW => ⟨rfl, ⟨by rw [ht]; exact hP, va_K.moved hW.alike hK, hD⟩, hS.F ht⟩) hS.2.2 hd
theorem g_lret (X : CX l D tys sh N r Z own cc nL (some .long) rm res v' G) {x : Int64} (hr : res = some (.long x)) (hv : v' = v) (hd : decode cc pc = .ok (.lreturn, 1)) : G v ls pc [.long x] := by
  obtain ⟨p, e, s, m, args, below, meth, c, A, ⟨hx, hb, hml, hown, hts⟩, hr0, hlk, hK, hZ0, hZ, hA, rfl⟩ := X
  subst hr; subst hv
  intro H locs la hP hD hS h
  exact W.lret hx hb hr0 (fun t ht hW => ⟨rfl, ⟨by rw [ht]; exact hP, va_K.moved hW.alike hK, hD⟩, hS.F ht⟩) hS.2.2 hd
theorem g_vret (X : CX l D tys sh N r Z own cc nL none rm res v' G) (hr : res = none) (hv : v' = v) (hd : decode cc pc = .ok (.return_, 1)) : G v ls pc [] := by
  obtain ⟨p, e, s, m, args, below, meth, c, A, ⟨hx, hb, hml, hown, hts⟩, hr0, hlk, hK, hZ0, hZ, hA, rfl⟩ := X
  subst hr; subst hv
  intro H locs la hP hD hS h
  exact W.vret hx hb hr0 (fun t ht hW => ⟨rfl, ⟨by rw [ht]; exact hP, va_K.moved hW.alike hK, hD⟩, hS.F ht⟩) hS.2.2 hd
theorem g_aret (X : CX l D tys sh N r Z own cc nL ret rm res v' G) {a : Option Nat} {rt : FieldType} (hrt : ret = some rt) (hrt2 : (∃ n, rt = .object n) ∨ ∃ t, rt = .array t) (hr : res = some (va_rf a)) (hv : v' = v) (hd : decode cc pc = .ok (.areturn, 1)) : G v ls pc [va_rf a] := by
  obtain ⟨p, e, s, m, args, below, meth, c, A, ⟨hx, hb, hml, hown, hts⟩, hr0, hlk, hK, hZ0, hZ, hA, rfl⟩ := X
  subst hr; subst hv; subst hrt
  intro H locs la hP hD hS h
  exact W.aret hx hb hr0 hrt2 (by cases a with | none => exact Or.inl rfl | some a => exact Or.inr ⟨a, rfl⟩) (fun t ht hW => ⟨rfl, ⟨by rw [ht]; exact hP, va_K.moved hW.alike hK, hD⟩, hS.F ht⟩) hS.2.2 hd
/-- behind a call -/
theorem g_behind {p : Program} {e : Env} {s : State} {m : MethodId} {args : Array Value} {below : List Frame} {meth : Method} {c : Code} {A : Nat → Prop} {H : Heap} {locs : List Loc} {la : Array Slot} {st0 : List Value} {a : Array Value} {resY : Option Value} {v1 : gV} {Q : State → Prop}
    (hrun : va_Run p l e rm s m args below meth c H locs 0 0 0 0 (F0 m pc la st0) st (QW D tys sh N r (gA N r H.size) resY v1 a) (gA N r H.size)) (hD : va_D A (cw sh N r v)) (hS : va_S A s.heap H locs) (hA : ∀ q, s.heap.size ≤ q → A q)
    (kk : ∀ (H1 : Heap) (locs1 : List Loc), va_P D vwCl (cw sh N r v1) H1 → va_D A (cw sh N r v1) → va_S A s.heap H1 locs1 → W p l e rm s m args below meth c H1 locs1 0 0 Q (F0 m (pc + 3) la (resY.toList ++ st))) : W p l e rm s m args below meth c H locs 0 0 Q (F0 m pc la st0) := by
  intro T hT X
  have hin := cw_in (N := N) (r := r) (sz := H.size) hD (fun q h => hA q (Nat.le_trans hS.1 h))
  obtain ⟨v, st₀, t, T', L, h0, X', hL, e1, e2, ⟨hres, ⟨hP1, hK1, hD1⟩, hz, hk⟩, stp⟩ := hrun T hT X
  cases hres
  rw [h0] at hz hk
  rw [← e1] at hz hk hP1
  obtain ⟨t2, a1, b1⟩ := kk T'.heap (locs ++ L) hP1 (hD1.weaken (fun _ _ _ h => hin _ h))
    ⟨Nat.le_trans hS.1 hz, fun q h1 h2 => by rw [hk q (Nat.lt_of_lt_of_le h1 hS.1) (fun z => h2 (hin q z))]; exact hS.2.1 q h1 h2, fun q hq => by
      rcases List.mem_append.mp hq with h | h
      · exact hS.2.2 q h
      · exact hin _ (hL q h)⟩ T' rfl X'
  exact ⟨t2, stp t2 a1, b1⟩
theorem g_blind {sz : Nat} {as : List Value} (hZ : gZok Z) : FrameBlind (va_Pc as (fun U => U.heap.size = sz ∧ va_P D vwCl (cw sh N r v) U.heap ∧ va_K D vwCl tys U ∧ va_D (fun _ => True) (cw sh N r v) ∧ Z (gA N r sz) U U.heap)) := by
  rintro a U g mk ⟨h1, h2, h3, h4, h5, h6⟩
  exact ⟨h1, h2, h3, va_K.moved (u := U) (U := U.calling g mk a) (Vm.Alike.refl U.vm) h4, h5, hZ.1.1 _ U (U.calling g mk a) _ rfl h6⟩
theorem g_callV (X : CX l D tys sh N r Z own cc nL ret rm res v' G) {y : MethodName} {bytes : ByteArray} {nLY n index i ci nC : Nat} {T : u_T} {retY : Option FieldType} {rmY : Room} {fs As stk st' : List Value} {resY : Option Value} {v1 : gV}
    (hcal : gCal y bytes nLY retY n) (hvir : gVir y) (hlnk : gLnk own index y) (hrm : gRm rm rmY nLY) (hM : Ct l D tys sh N r Z y bytes nLY retY rmY (.ref (r i) :: As) v resY v1) (hi : i < N) (hs : sh i (v i) = .inr (ci, fs)) (hc : vwCl[ci]? = some (y.cls, T, nC)) (hn : As.length = n) (hstk : As.reverse ++ .ref (r i) :: st = stk) (hroom : (st.map fun v => v.category).sum ≤ 8) (hres : resY.toList ++ st = st') (hd : decode cc pc = .ok (.invokevirtual index, 3)) (kk : G v1 ls (pc + 3) st') : G v ls pc stk := by
  obtain ⟨p, e, s, m, args, below, meth, c, A, ⟨hx, hb, hml, hown, hts⟩, hr, hlk, hK, hZ0, hZ, hA, rfl⟩ := X
  subst hres
  intro H locs la hP hD hS h
  obtain ⟨hini, hcode, hdd⟩ := hcal
  have hg : GoodIn gw (Cond.code y bytes nLY retY :: gw) := fun w hw => (List.mem_cons.mp hw).elim (fun q => by rw [q]; exact gw_good _ hcode) (gw_good w)
  have hin := cw_in (N := N) (r := r) (sz := H.size) hD (fun q h => hA q (Nat.le_trans hS.1 h))
  have hpre : PreV s H y.cls (r i) (va_Pc (.ref (r i) :: As) (fun U => U.heap.size = H.size ∧ va_P D vwCl (cw sh N r v) U.heap ∧ va_K D vwCl tys U ∧ va_D (fun _ => True) (cw sh N r v) ∧ Z (gA N r H.size) U U.heap)) As :=
    ⟨g_blind hZ, va_recv hK hP (q0 := i) hc (by rw [cw_get hi, hs]), fun U hU hW => ⟨rfl, by rw [hU], by rw [hU]; exact hP, va_K.moved hW.alike hK, hD.weaken (fun _ _ _ _ => trivial), by
      rw [hU]
      exact hZ.1.2 _ _ _ _ hW (hZ.2.2.1 _ _ _ _ (hZ.2.1 _ _ _ _ hZ0 hS.2.1) hin)⟩⟩
  rcases hlnk with hl | ⟨host, hl⟩
  · exact g_behind (va_runV (nL := nL) ⟨hx, hb, hml, hown, hts⟩ (hM H.size) ⟨callB_of n hts hg rfl hrm.1 hrm.2.1 (hts _ hini) (hts _ hl) hdd ⟨hrm.2.2.1, hrm.2.2.2⟩, hts _ hvir.1, hts _ hvir.2⟩ hpre rfl hn h.1 hstk.symm (lv_room hroom) hd ⟨Nat.zero_le _, Nat.zero_le _⟩) hD hS hA (fun H1 locs1 hP1 hD1 hS1 => kk H1 locs1 la hP1 hD1 hS1 h)
  · exact g_behind (va_runVN (nL := nL) ⟨hx, hb, hml, hown, hts⟩ (hM H.size) ⟨va_cnB n hts hg rfl hrm.1 hrm.2.1 (hZ.2.2.2 _ _ _ hZ0 _ hl) (hts _ hini) hdd ⟨hrm.2.2.1, hrm.2.2.2⟩, hts _ hvir.1, hts _ hvir.2⟩ hpre rfl hn h.1 hstk.symm (lv_room hroom) hd ⟨Nat.zero_le _, Nat.zero_le _⟩) hD hS hA (fun H1 locs1 hP1 hD1 hS1 => kk H1 locs1 la hP1 hD1 hS1 h)
theorem g_callS (X : CX l D tys sh N r Z own cc nL ret rm res v' G) {y : MethodName} {bytes : ByteArray} {nLY n index : Nat} {retY : Option FieldType} {rmY : Room} {As stk st' : List Value} {resY : Option Value} {v1 : gV}
    (hcal : gCal y bytes nLY retY n) (hsta : Cond.static y ∈ gw) (hlnk : gLnk own index y) (hrm : gRm rm rmY nLY) (hM : Ct l D tys sh N r Z y bytes nLY retY rmY As v resY v1) (hn : As.length = n) (hstk : As.reverse ++ st = stk) (hroom : (st.map fun v => v.category).sum ≤ 8) (hres : resY.toList ++ st = st') (hd : decode cc pc = .ok (.invokestatic index, 3)) (kk : G v1 ls (pc + 3) st') : G v ls pc stk := by
  obtain ⟨p, e, s, m, args, below, meth, c, A, ⟨hx, hb, hml, hown, hts⟩, hr, hlk, hK, hZ0, hZ, hA, rfl⟩ := X
  subst hres
  intro H locs la hP hD hS h
  obtain ⟨hini, hcode, hdd⟩ := hcal
  have hg : GoodIn gw (Cond.code y bytes nLY retY :: gw) := fun w hw => (List.mem_cons.mp hw).elim (fun q => by rw [q]; exact gw_good _ hcode) (gw_good w)
  have hin := cw_in (N := N) (r := r) (sz := H.size) hD (fun q h => hA q (Nat.le_trans hS.1 h))
  have hpre : PreS s H (va_Pc As (fun U => U.heap.size = H.size ∧ va_P D vwCl (cw sh N r v) U.heap ∧ va_K D vwCl tys U ∧ va_D (fun _ => True) (cw sh N r v) ∧ Z (gA N r H.size) U U.heap)) As :=
    ⟨g_blind hZ, fun U hU hW => ⟨rfl, by rw [hU], by rw [hU]; exact hP, va_K.moved hW.alike hK, hD.weaken (fun _ _ _ _ => trivial), by
      rw [hU]
      exact hZ.1.2 _ _ _ _ hW (hZ.2.2.1 _ _ _ _ (hZ.2.1 _ _ _ _ hZ0 hS.2.1) hin)⟩⟩
  rcases hlnk with hl | ⟨host, hl⟩
  · exact g_behind (va_runS (nL := nL) ⟨hx, hb, hml, hown, hts⟩ (hM H.size) ⟨callB_of n hts hg rfl hrm.1 hrm.2.1 (hts _ hini) (hts _ hl) hdd ⟨hrm.2.2.1, hrm.2.2.2⟩, hts _ hsta⟩ hpre rfl hn h.1 hstk.symm (lv_room hroom) hd ⟨Nat.zero_le _, Nat.zero_le _⟩) hD hS hA (fun H1 locs1 hP1 hD1 hS1 => kk H1 locs1 la hP1 hD1 hS1 h)
  · exact g_behind (va_runSN (nL := nL) ⟨hx, hb, hml, hown, hts⟩ (hM H.size) ⟨va_cnB n hts hg rfl hrm.1 hrm.2.1 (hZ.2.2.2 _ _ _ hZ0 _ hl) (hts _ hini) hdd ⟨hrm.2.2.1, hrm.2.2.2⟩, hts _ hsta, trivial⟩ hpre rfl hn h.1 hstk.symm (lv_room hroom) hd ⟨Nat.zero_le _, Nat.zero_le _⟩) hD hS hA (fun H1 locs1 hP1 hD1 hS1 => kk H1 locs1 la hP1 hD1 hS1 h)
theorem g_max (X : CX l D tys sh N r Z own cc nL ret rm res v' G) {index : Nat} {x y : Int32} (hlink : Cond.methodLink own index Lib.Math.max.name ∈ gw) (hstat : Cond.static Lib.Math.max.name ∈ gw) (hini : Cond.initialized "java/lang/Math" ∈ gw) (hcode : Cond.code Lib.Math.max.name Lib.Math.max.code 2 (some .int) ∈ gw) (hfr : 1 ≤ rm.frames) (hlo : 21 ≤ rm.locals) (hroom : (st.map fun v => v.category).sum ≤ 8) (hd : decode cc pc = .ok (.invokestatic index, 3)) (kk : G v ls (pc + 3) (.int (if x < y then y else x) :: st)) : G v ls pc (.int y :: .int x :: st) := by
  obtain ⟨p, e, s, m, args, below, meth, c, A, ⟨hx, hb, hml, hown, hts⟩, hr, hlk, hK, hZ0, hZ, hA, rfl⟩ := X
  intro H locs la hP hD hS h
  exact va_mmax hx hb (hml.trans h.1.symm) hown (hts _ hlink) (hts _ hstat) (hts _ hini) (hts _ hcode) hfr (by omega) (Nat.zero_le _) (Nat.zero_le _) hd (kk H locs la hP hD hS h)
theorem g_min (X : CX l D tys sh N r Z own cc nL ret rm res v' G) {index : Nat} {x y : Int32} (hlink : Cond.methodLink own index Lib.Math.min.name ∈ gw) (hstat : Cond.static Lib.Math.min.name ∈ gw) (hini : Cond.initialized "java/lang/Math" ∈ gw) (hcode : Cond.code Lib.Math.min.name Lib.Math.min.code 2 (some .int) ∈ gw) (hfr : 1 ≤ rm.frames) (hlo : 21 ≤ rm.locals) (hroom : (st.map fun v => v.category).sum ≤ 8) (hd : decode cc pc = .ok (.invokestatic index, 3)) (kk : G v ls (pc + 3) (.int (if y < x then y else x) :: st)) : G v ls pc (.int y :: .int x :: st) := by
  obtain ⟨p, e, s, m, args, below, meth, c, A, ⟨hx, hb, hml, hown, hts⟩, hr, hlk, hK, hZ0, hZ, hA, rfl⟩ := X
  intro H locs la hP hD hS h
  exact va_mmin hx hb (hml.trans h.1.symm) hown (hts _ hlink) (hts _ hstat) (hts _ hini) (hts _ hcode) hfr (by omega) (Nat.zero_le _) (Nat.zero_le _) hd (kk H locs la hP hD hS h)
theorem g_copy (X : CX l D tys sh N r Z own cc nL ret rm res v' G) {index i j n0 n1 : Nat} {c0 c1 : ClassId} {sp dp n : Int32} (hlink : Cond.methodLink own index arraycopyName ∈ gw) (hnat : Cond.native arraycopyName ∈ gw) (hstat : Cond.static arraycopyName ∈ gw) (hini : Cond.initialized "java/lang/System" ∈ gw) (hi : i < N) (hj : j < N) (hs : sh i (v i) = .inl (c0, n0, .inl (v i))) (hs1 : ∀ f, sh j f = .inl (c1, n1, .inl f)) (ht0 : tys[0]? = some (c0, .int)) (ht1 : tys[0]? = some (c1, .int)) (h1 : ¬ sp < 0) (h2 : ¬ dp < 0) (h3 : ¬ n < 0) (h4 : sp.toNatClampNeg + n.toNatClampNeg ≤ n0) (h5 : dp.toNatClampNeg + n.toNatClampNeg ≤ n1) (hfr : 1 ≤ rm.frames) (hlo : 8 + (nativeFrameWords "java/lang/System" "arraycopy" 5 + 11) ≤ rm.locals) (hroom : (st.map fun v => v.category).sum ≤ 8) (hd : decode cc pc = .ok (.invokestatic index, 3)) (kk : G (up2 v j (va_cpy (v i) (v j) sp.toNatClampNeg dp.toNatClampNeg n.toNatClampNeg)) ls (pc + 3) st) : G v ls pc (.int n :: .int dp :: .ref (r j) :: .int sp :: .ref (r i) :: st) := by
  obtain ⟨p, e, s, m, args, below, meth, c, A, ⟨hx, hb, hml, hown, hts⟩, hr, hlk, hK, hZ0, hZ, hA, rfl⟩ := X
  intro H locs la hP hD hS h
  refine va_copyi hx hb (hml.trans h.1.symm) hown (hts _ hlink) (hts _ hnat) (hts _ hstat) (hts _ hini) hK hP hD hS i j 0 0 (by rw [cw_get hi, hs]) (by rw [cw_get hj, hs1]) ht0 ht1 rfl h1 h2 h3 h4 h5 (fun _ _ => rfl) hfr (by omega) hd (fun H1 locs1 hP1 hD1 hS1 => ?_)
  rw [← hs1, cw_set hj] at hP1 hD1
  exact kk H1 locs1 la hP1 hD1 hS1 h
/-- a static that holds an array of ints outside the world -/
theorem g_gets (X : CX l D tys sh N r Z own cc nL ret rm res v' G) {C n d : String} {a : Value} {index : Nat} (hz : ∀ A U H, Z A U H → va_Z C n d a A U H) (hl : Cond.fieldLink own index C n d ∈ gw ∨ ∃ host, Cond.fieldLinkNest own index C n d host ∈ gnest) (hd : decode cc pc = .ok (.getstatic index, 3)) (kk : G v ls (pc + 3) (a :: st)) : G v ls pc st := by
  obtain ⟨p, e, s, m, args, below, meth, c, A, ⟨hx, hb, hml, hown, hts⟩, hr, hlk, hK, hZ0, hZ, hA, rfl⟩ := X
  intro H locs la hP hD hS h
  rcases hl with hl | ⟨host, hl⟩
  · exact va_gets hx hb (hz _ _ _ hZ0) hS hown (hts _ hl) (fun _ q => q) hd (kk H locs la hP hD hS h)
  · exact va_getsN hx hb (hz _ _ _ hZ0) hS hown ((hZ.2.2.2 _ _ _ hZ0).use hl) (fun _ q => q) hd (kk H locs la hP hD hS h)
theorem g_ialdT (X : CX l D tys sh N r Z own cc nL ret rm res v' G) {t n : Nat} {f : Nat → Int32} {x : Int32} (hz : ∀ A U H, Z A U H → va_T .int t n (fun j => .int (f j)) A U H) (hin : vp_in x n) (hd : decode cc pc = .ok (.iaload, 1)) (kk : G v ls (pc + 1) (.int (f x.toNatClampNeg) :: st)) : G v ls pc (.int x :: .ref t :: st) := by
  obtain ⟨p, e, s, m, args, below, meth, c, A, ⟨hx, hb, hml, hown, hts⟩, hr, hlk, hK, hZ0, hZ, hA, rfl⟩ := X
  intro H locs la hP hD hS h
  have hlt : x.toNatClampNeg < n := Nat.not_le.mp fun q => hin (Or.inr q)
  obtain ⟨cell, q1, q2, q3, q4, q5, q6, q7⟩ := hz _ _ _ (hZ.2.1 _ _ _ _ hZ0 hS.2.1)
  exact W.iald hx hb q1 q2 q3 (fun q => hin (q.elim Or.inl (fun z => Or.inr (Nat.le_trans q4 z)))) (q6 _ hlt) rfl rfl hd (kk H locs la hP hD hS h)
theorem g_alenT (X : CX l D tys sh N r Z own cc nL ret rm res v' G) {t n : Nat} {f : Nat → Int32} (hz : ∀ A U H, Z A U H → va_T .int t n (fun j => .int (f j)) A U H) (x : Int32) (hx : Int32.ofNat n = x) (hd : decode cc pc = .ok (.arraylength, 1)) (kk : G v ls (pc + 1) (.int x :: st)) : G v ls pc (.ref t :: st) := by
  obtain ⟨p, e, s, m, args, below, meth, c, A, ⟨hx0, hb, hml, hown, hts⟩, hr, hlk, hK, hZ0, hZ, hA, rfl⟩ := X
  intro H locs la hP hD hS h
  obtain ⟨cell, q1, q2, q3, q4, q5, q6, q7⟩ := hz _ _ _ (hZ.2.1 _ _ _ _ hZ0 hS.2.1)
  exact W.alen hx0 hb q1 q2 (q5.trans hx) rfl rfl hd (kk H locs la hP hD hS h)
end GY
