/-! a body under way over a list of cells that may grow -/
abbrev nG : Type := va_W → Nat → Nat → List (Nat × Value) → Nat → List Value → Prop
abbrev nP : Type := Program → Env → State → MethodId → Array Value → List Frame → Method → Code → (Nat → Prop) → (State → Prop) → Prop
/-- what of the tables no word keeps -/
def Zn (U : State) : Prop := gNs U ∧ va_AO "ThreeEmpties$Text" U ∧ va_AOA .int U
theorem Zn.same {u U : State} (h : U.vm = u.vm) (hZ : Zn u) : Zn U := by
  have hal : u.vm.Alike U.vm := by rw [h]; exact Vm.Alike.refl _
  exact ⟨gNs.same h hZ.1, va_AO.moved hal hZ.2.1, va_AOA.moved hal hZ.2.2⟩
theorem Zn.warm {u U : State} (hW : u.WarmedH U.vm) (hZ : Zn u) : Zn U := ⟨gNs.warm hW hZ.1, va_AO.moved hW.alike hZ.2.1, va_AOA.moved hW.alike hZ.2.2⟩
def NX (l : Launch) (D : va_G) (cA : Nat → ClassId) (own : String) (cc : ByteArray) (nL : Nat) (rm : Room) (P : nP) (G : nG) : Prop :=
  ∃ (p : Program) (e : Env) (s : State) (m : MethodId) (args : Array Value) (below : List Frame) (meth : Method) (c : Code) (A : Nat → Prop) (Q : State → Prop),
    (p.tables.exec = Jvm.exec ∧ c.code = cc ∧ c.maxLocals = nL ∧ s.vm.findClass own = some m.cls ∧ ∀ w ∈ gw, w.before args s = true) ∧ va_K D vwCl (tysC cA) s ∧ Zn s ∧ (∀ q, s.heap.size ≤ q → A q) ∧ P p e s m args below meth c A Q ∧
    G = fun ws kc ns ls pc st => ∀ (H : Heap) (locs : List Loc) (la : Array Slot), va_P D vwCl ws H → va_D A ws → va_S A s.heap H locs → lv_has la nL ls →
      W p l e rm s m args below meth c H locs kc ns Q (F0 m pc la st)
theorem pick_at {ws w : va_W} {is : List Nat} (hs : is.map (fun i => ws[i]?) = w.map some) : ∀ (k : Nat) (q : Nat × va_E), w[k]? = some q → ∃ i, is[k]? = some i ∧ ws[i]? = some q := by
  intro k q hq
  have h1 : (is.map (fun i => ws[i]?))[k]? = some (some q) := by rw [hs, List.getElem?_map, hq]; rfl
  rw [List.getElem?_map] at h1
  cases hi : is[k]? with
  | none => rw [hi] at h1; cases h1
  | some i => rw [hi] at h1; exact ⟨i, rfl, Option.some.inj h1⟩
theorem pick_P {D : va_G} {ws w : va_W} {is : List Nat} {H : Heap} (hP : va_P D vwCl ws H) (hs : is.map (fun i => ws[i]?) = w.map some) : va_P D vwCl w H := fun k q hq => by
  obtain ⟨i, -, h⟩ := pick_at hs k q hq
  exact hP i q h
theorem gA_A {sh : gSh} {N : Nat} {r : Nat → Nat} {v : gV} {sz q : Nat} : va_A (cw sh N r v) sz q ↔ gA N r sz q := by
  constructor
  · rintro (⟨k, e, h⟩ | h)
    · have hl : k < N := by
        have := (List.getElem?_eq_some_iff.mp h).1
        rwa [cw_len] at this
      rw [cw_get hl] at h
      cases h
      exact Or.inl ⟨k, hl, rfl⟩
    · exact Or.inr h
  · rintro (⟨i, hi, rfl⟩ | h)
    · exact Or.inl ⟨i, _, cw_get hi⟩
    · exact Or.inr h
section NXR
variable {l : Launch} {D : va_G} {cA : Nat → ClassId} {own : String} {cc : ByteArray} {nL : Nat} {rm : Room} {P : nP} {G : nG}
variable {ws : va_W} {kc ns : Nat} {ls : List (Nat × Value)} {pc : Nat} {st : List Value}
theorem n_sub (X : NX l D cA own cc nL rm P G) (ks : List Nat) {ls' : List (Nat × Value)} (hl : lv_pick ls ks = ls') (k : G ws kc ns ls' pc st) : G ws kc ns ls pc st := by
  obtain ⟨p, e, s, m, args, below, meth, c, A, Q, ⟨hx, hb, hml, hown, hts⟩, hK, hZ0, hA, hPq, rfl⟩ := X
  intro H locs la hP hD hS h
  exact k H locs la hP hD hS (lv_sub h ks hl)
theorem n_iconst (X : NX l D cA own cc nL rm P G) {n : Int} (x : Int32) (hd : decode cc pc = .ok (.iconst n, 1)) (hv : Int32.ofInt n = x) (k : G ws kc ns ls (pc + 1) (.int x :: st)) : G ws kc ns ls pc st := by
  obtain ⟨p, e, s, m, args, below, meth, c, A, Q, ⟨hx, hb, hml, hown, hts⟩, hK, hZ0, hA, hPq, rfl⟩ := X
  intro H locs la hP hD hS h
  exact lv_iconst hx hb hd hv (k H locs la hP hD hS h)
theorem n_bipush (X : NX l D cA own cc nL rm P G) {n : Int} (x : Int32) (hd : decode cc pc = .ok (.bipush n, 2)) (hv : (Int8.ofInt n).toInt32 = x) (k : G ws kc ns ls (pc + 2) (.int x :: st)) : G ws kc ns ls pc st := by
  obtain ⟨p, e, s, m, args, below, meth, c, A, Q, ⟨hx, hb, hml, hown, hts⟩, hK, hZ0, hA, hPq, rfl⟩ := X
  intro H locs la hP hD hS h
  exact lv_bipush hx hb hd hv (k H locs la hP hD hS h)
theorem n_sipush (X : NX l D cA own cc nL rm P G) {n : Int} (x : Int32) (hd : decode cc pc = .ok (.sipush n, 3)) (hv : (Int16.ofInt n).toInt32 = x) (k : G ws kc ns ls (pc + 3) (.int x :: st)) : G ws kc ns ls pc st := by
  obtain ⟨p, e, s, m, args, below, meth, c, A, Q, ⟨hx, hb, hml, hown, hts⟩, hK, hZ0, hA, hPq, rfl⟩ := X
  intro H locs la hP hD hS h
  exact lv_sipush hx hb hd hv (k H locs la hP hD hS h)
theorem n_iload_n (X : NX l D cA own cc nL rm P G) {k : Fin 4} {i : Nat} {x : Int32} (hd : decode cc pc = .ok (.iload_n k, 1)) (hi : (k : Nat) = i) (q : Nat) (hq : ls[q]? = some (i, .int x)) (kk : G ws kc ns ls (pc + 1) (.int x :: st)) : G ws kc ns ls pc st := by
  obtain ⟨p, e, s, m, args, below, meth, c, A, Q, ⟨hx, hb, hml, hown, hts⟩, hK, hZ0, hA, hPq, rfl⟩ := X
  intro H locs la hP hD hS h
  exact lv_iload_n hx hb hd hi (lv_at h q hq) (kk H locs la hP hD hS h)
theorem n_iload (X : NX l D cA own cc nL rm P G) {i : Nat} {x : Int32} (hd : decode cc pc = .ok (.iload i, 2)) (q : Nat) (hq : ls[q]? = some (i, .int x)) (kk : G ws kc ns ls (pc + 2) (.int x :: st)) : G ws kc ns ls pc st := by
  obtain ⟨p, e, s, m, args, below, meth, c, A, Q, ⟨hx, hb, hml, hown, hts⟩, hK, hZ0, hA, hPq, rfl⟩ := X
  intro H locs la hP hD hS h
  exact lv_iload hx hb hd (lv_at h q hq) (kk H locs la hP hD hS h)
theorem n_istore_n (X : NX l D cA own cc nL rm P G) {k : Fin 4} {i : Nat} {x : Int32} (ls' : List (Nat × Value)) (hd : decode cc pc = .ok (.istore_n k, 1)) (hi : (k : Nat) = i) (hn : i < nL) (hl : (i, Value.int x) :: ls.filter (fun q => !(q.1 == i) && !(q.1 + 1 == i && q.2.category == 2)) = ls') (kk : G ws kc ns ls' (pc + 1) st) : G ws kc ns ls pc (.int x :: st) := by
  obtain ⟨p, e, s, m, args, below, meth, c, A, Q, ⟨hx, hb, hml, hown, hts⟩, hK, hZ0, hA, hPq, rfl⟩ := X
  intro H locs la hP hD hS h
  exact lv_istore_n hx hb hd hi h hn hl (fun la' h' => kk H locs la' hP hD hS h')
theorem n_aload_n (X : NX l D cA own cc nL rm P G) {k : Fin 4} {i a : Nat} (hd : decode cc pc = .ok (.aload_n k, 1)) (hi : (k : Nat) = i) (q : Nat) (hq : ls[q]? = some (i, .ref a)) (k : G ws kc ns ls (pc + 1) (.ref a :: st)) : G ws kc ns ls pc (st) := by
  obtain ⟨p, e, s, m, args, below, meth, c, A, Q, ⟨hx, hb, hml, hown, hts⟩, hK, hZ0, hA, hPq, rfl⟩ := X
  intro H locs la hP hD hS h
  exact lv_aload_n hx hb hd hi (lv_at h q hq) (k H locs la hP hD hS h)
theorem n_astore_n (X : NX l D cA own cc nL rm P G) {k : Fin 4} {i a : Nat} (ls' : List (Nat × Value)) (hd : decode cc pc = .ok (.astore_n k, 1)) (hi : (k : Nat) = i) (hn : i < nL) (hl : (i, Value.ref a) :: ls.filter (fun q => !(q.1 == i) && !(q.1 + 1 == i && q.2.category == 2)) = ls') (k : G ws kc ns ls' (pc + 1) st) : G ws kc ns ls pc (.ref a :: st) := by
  obtain ⟨p, e, s, m, args, below, meth, c, A, Q, ⟨hx, hb, hml, hown, hts⟩, hK, hZ0, hA, hPq, rfl⟩ := X
  intro H locs la hP hD hS h
  exact lv_astore_n hx hb hd hi h hn hl (fun la' h' => k H locs la' hP hD hS h')
theorem n_iinc (X : NX l D cA own cc nL rm P G) {i : Nat} {n : Int} {x : Int32} (y : Int32) (ls' : List (Nat × Value)) (hd : decode cc pc = .ok (.iinc i n, 3)) (q : Nat) (hq : ls[q]? = some (i, .int x)) (hy : x + Int32.ofInt n = y) (hn : i < nL) (hl : (i, Value.int y) :: ls.filter (fun q => !(q.1 == i) && !(q.1 + 1 == i && q.2.category == 2)) = ls') (kk : G ws kc ns ls' (pc + 3) st) : G ws kc ns ls pc st := by
  obtain ⟨p, e, s, m, args, below, meth, c, A, Q, ⟨hx, hb, hml, hown, hts⟩, hK, hZ0, hA, hPq, rfl⟩ := X
  intro H locs la hP hD hS h
  exact lv_iinc hx hb hd h hq hy hn hl (fun la' h' => kk H locs la' hP hD hS h')
theorem n_dup (X : NX l D cA own cc nL rm P G) {a : Value} (hd : decode cc pc = .ok (.dup, 1)) (ha : a.category = 1) (k : G ws kc ns ls (pc + 1) (a :: a :: st)) : G ws kc ns ls pc (a :: st) := by
  obtain ⟨p, e, s, m, args, below, meth, c, A, Q, ⟨hx, hb, hml, hown, hts⟩, hK, hZ0, hA, hPq, rfl⟩ := X
  intro H locs la hP hD hS h
  exact lv_dup hx hb hd ha (k H locs la hP hD hS h)
theorem n_pop (X : NX l D cA own cc nL rm P G) {a : Value} (hd : decode cc pc = .ok (.pop, 1)) (ha : a.category = 1) (k : G ws kc ns ls (pc + 1) st) : G ws kc ns ls pc (a :: st) := by
  obtain ⟨p, e, s, m, args, below, meth, c, A, Q, ⟨hx, hb, hml, hown, hts⟩, hK, hZ0, hA, hPq, rfl⟩ := X
  intro H locs la hP hD hS h
  exact lv_pop hx hb hd ha (k H locs la hP hD hS h)
theorem n_goto (X : NX l D cA own cc nL rm P G) {off : Int} (tgt : Nat) (hd : decode cc pc = .ok (.goto off, 3)) (ht : (pc : Int) + off = (tgt : Int)) (k : G ws kc ns ls tgt st) : G ws kc ns ls pc (st) := by
  obtain ⟨p, e, s, m, args, below, meth, c, A, Q, ⟨hx, hb, hml, hown, hts⟩, hK, hZ0, hA, hPq, rfl⟩ := X
  intro H locs la hP hD hS h
  exact lv_goto hx hb hd ht (k H locs la hP hD hS h)
theorem n_icmp_ge (X : NX l D cA own cc nL rm P G) {x y : Int32} {off : Int} (tgt : Nat) (hd : decode cc pc = .ok (.if_icmp .ge off, 3)) (ht : (pc : Int) + off = (tgt : Int)) (kt : y ≤ x → G ws kc ns ls tgt st) (kf : ¬ y ≤ x → G ws kc ns ls (pc + 3) st) : G ws kc ns ls pc (.int y :: .int x :: st) := by
  obtain ⟨p, e, s, m, args, below, meth, c, A, Q, ⟨hx, hb, hml, hown, hts⟩, hK, hZ0, hA, hPq, rfl⟩ := X
  intro H locs la hP hD hS h
  exact lv_icmp_ge hx hb hd ht (fun q => kt q H locs la hP hD hS h) (fun q => kf q H locs la hP hD hS h)
theorem n_icmp_gt (X : NX l D cA own cc nL rm P G) {x y : Int32} {off : Int} (tgt : Nat) (hd : decode cc pc = .ok (.if_icmp .gt off, 3)) (ht : (pc : Int) + off = (tgt : Int)) (kt : y < x → G ws kc ns ls tgt st) (kf : ¬ y < x → G ws kc ns ls (pc + 3) st) : G ws kc ns ls pc (.int y :: .int x :: st) := by
  obtain ⟨p, e, s, m, args, below, meth, c, A, Q, ⟨hx, hb, hml, hown, hts⟩, hK, hZ0, hA, hPq, rfl⟩ := X
  intro H locs la hP hD hS h
  exact lv_icmp_gt hx hb hd ht (fun q => kt q H locs la hP hD hS h) (fun q => kf q H locs la hP hD hS h)
theorem n_icmp_eq (X : NX l D cA own cc nL rm P G) {x y : Int32} {off : Int} (tgt : Nat) (hd : decode cc pc = .ok (.if_icmp .eq off, 3)) (ht : (pc : Int) + off = (tgt : Int)) (kt : x = y → G ws kc ns ls tgt st) (kf : ¬ x = y → G ws kc ns ls (pc + 3) st) : G ws kc ns ls pc (.int y :: .int x :: st) := by
  obtain ⟨p, e, s, m, args, below, meth, c, A, Q, ⟨hx, hb, hml, hown, hts⟩, hK, hZ0, hA, hPq, rfl⟩ := X
  intro H locs la hP hD hS h
  exact lv_icmp_eq hx hb hd ht (fun q => kt q H locs la hP hD hS h) (fun q => kf q H locs la hP hD hS h)
theorem n_iadd (X : NX l D cA own cc nL rm P G) {x y : Int32} (hd : decode cc pc = .ok (.iadd, 1)) (k : G ws kc ns ls (pc + 1) (.int (x + y) :: st)) : G ws kc ns ls pc (.int y :: .int x :: st) := by
  obtain ⟨p, e, s, m, args, below, meth, c, A, Q, ⟨hx, hb, hml, hown, hts⟩, hK, hZ0, hA, hPq, rfl⟩ := X
  intro H locs la hP hD hS h
  exact lv_iadd hx hb hd (k H locs la hP hD hS h)
theorem n_isub (X : NX l D cA own cc nL rm P G) {x y : Int32} (hd : decode cc pc = .ok (.isub, 1)) (k : G ws kc ns ls (pc + 1) (.int (x - y) :: st)) : G ws kc ns ls pc (.int y :: .int x :: st) := by
  obtain ⟨p, e, s, m, args, below, meth, c, A, Q, ⟨hx, hb, hml, hown, hts⟩, hK, hZ0, hA, hPq, rfl⟩ := X
  intro H locs la hP hD hS h
  exact lv_isub hx hb hd (k H locs la hP hD hS h)
theorem n_iand (X : NX l D cA own cc nL rm P G) {x y : Int32} (hd : decode cc pc = .ok (.iand, 1)) (k : G ws kc ns ls (pc + 1) (.int (x &&& y) :: st)) : G ws kc ns ls pc (.int y :: .int x :: st) := by
  obtain ⟨p, e, s, m, args, below, meth, c, A, Q, ⟨hx, hb, hml, hown, hts⟩, hK, hZ0, hA, hPq, rfl⟩ := X
  intro H locs la hP hD hS h
  exact lv_iand hx hb hd (k H locs la hP hD hS h)
theorem n_ws (X : NX l D cA own cc nL rm P G) (ws' : va_W) (h : ws = ws') (kk : G ws' kc ns ls pc st) : G ws kc ns ls pc st := by rw [h]; exact kk
theorem n_obj (X : NX l D cA own cc nL rm P G) {index a : Nat} (hl : Cond.methodLink own index Lib.objectInit ∈ gw) (h1 : Cond.instanceMethod Lib.objectInit ∈ gw) (h2 : Cond.code Lib.objectInit ⟨#[0xb1]⟩ 1 none ∈ gw) (hf : 1 ≤ rm.frames) (hlo : 20 ≤ rm.locals) (hr : (st.map fun v => v.category).sum ≤ 8) (hd : decode cc pc = .ok (.invokespecial index, 3)) (kk : G ws kc ns ls (pc + 3) st) : G ws kc ns ls pc (.ref a :: st) := by
  obtain ⟨p, e, s, m, args, below, meth, c, A, Q, ⟨hx, hb, hml, hown, hts⟩, hK, hZ0, hA, hPq, rfl⟩ := X
  intro H locs la hP hD hS h
  exact W.objInit hx hb hown (hts _ hl) (hts _ h1) (hts _ h2) rfl (by rw [hml]; exact h.1) rfl hd hf (Nat.le_trans (Nat.add_le_add_right (lv_room hr) 12) hlo) (W.eq (g2 := F0 m (pc + 3) la st) rfl (kk H locs la hP hD hS h))
theorem n_newa (X : NX l D cA own cc nL rm P G) {x : Int32} (N' : Nat) (ha : Cond.arrayClass .int ∈ gw) (hn : ¬ x < 0) (hN : x.toNatClampNeg = N') (hb1 : N' * 4 ≤ 536870912) (h1 : kc + 1 ≤ rm.cells) (h2 : ns + N' ≤ rm.slots) (hd : decode cc pc = .ok (.newarray .int, 2)) (kk : ∀ q : Nat, G (ws ++ [(q, .inl (cA 0, N', .inl (fun _ => 0)))]) (kc + 1) (ns + N') ls (pc + 2) (.ref q :: st)) : G ws kc ns ls pc (.int x :: st) := by
  obtain ⟨p, e, s, m, args, below, meth, c, A, Q, ⟨hx, hb, hml, hown, hts⟩, hK, hZ0, hA, hPq, rfl⟩ := X
  intro H locs la hP hD hS h
  refine va_newa (atype := .int) (ty := .int) (a0 := (N', .inl (fun _ => 0))) hx hb (hts _ ha) rfl hK hP hD hS hA (fun _ => rfl) hn hN hb1 h1 h2 hd (fun q c' H1 hK1 hP1 hD1 hS1 => ?_)
  have e1 : s.vm.findClass ("[" ++ FieldType.int.toString) = some c' := (hK1.2 3 (c', .int) rfl).2
  have e2 : s.vm.findClass ("[" ++ FieldType.int.toString) = some (cA 0) := (hK.2 0 (cA 0, .int) rfl).2
  have e3 : cA 0 = c' := Option.some.inj (e2.symm.trans e1)
  subst e3
  exact kk q H1 locs la hP1 hD1 hS1 h
theorem n_newq (X : NX l D cA own cc nL rm P G) {x : Int32} {index : Nat} (N' : Nat) (hl : Cond.classLink own index "ThreeEmpties$Text" ∈ gw) (hn : ¬ x < 0) (hN : x.toNatClampNeg = N') (hb1 : N' * 4 ≤ 536870912) (h1 : kc + 1 ≤ rm.cells) (h2 : ns + N' ≤ rm.slots) (hd : decode cc pc = .ok (.anewarray index, 3)) (kk : ∀ q : Nat, G (ws ++ [(q, .inl (cA 1, N', .inr (.inr (.inr (.inr (fun _ => none))))))]) (kc + 1) (ns + N') ls (pc + 3) (.ref q :: st)) : G ws kc ns ls pc (.int x :: st) := by
  obtain ⟨p, e, s, m, args, below, meth, c, A, Q, ⟨hx, hb, hml, hown, hts⟩, hK, hZ0, hA, hPq, rfl⟩ := X
  intro H locs la hP hD hS h
  refine va_newq (C := "ThreeEmpties$Text") hx hb hown (hts _ hl) hZ0.2.1 hK hP hD hS hA hn hN hb1 h1 h2 hd (fun q c' H1 hK1 hP1 hD1 hS1 => ?_)
  have e1 : va_RA s c' (.object "ThreeEmpties$Text") := (hK1.2 3 (c', .object "ThreeEmpties$Text") rfl).2
  have e2 : va_RA s (cA 1) (.object "ThreeEmpties$Text") := (hK.2 1 (cA 1, .object "ThreeEmpties$Text") rfl).2
  obtain ⟨-, -, -, -, -, e1⟩ := e1
  obtain ⟨-, -, -, -, -, e2⟩ := e2
  have e3 : cA 1 = c' := Option.some.inj (e2.symm.trans e1)
  subst e3
  exact kk q H1 locs la hP1 hD1 hS1 h
theorem n_new (X : NX l D cA own cc nL rm P G) {index ci N : Nat} {C : String} {T : u_T} {fs : List Value} (ty : Nat → FieldType) (hin : ∀ w ∈ u_ws C T N, w ∈ gw) (hty : ∀ k, k < N → parseFieldDescriptor (T k).2.2.1 = some (ty k)) (hcl : Cond.classLink own index C ∈ gw) (hi1 : Cond.instantiable C N ∈ gw) (hi2 : Cond.initialized C ∈ gw) (hc : vwCl[ci]? = some (C, T, N)) (hfs : ∀ j, j < N → defaultValue (ty j) = vp_V fs j) (h1 : kc + 1 ≤ rm.cells) (h2 : ns + N ≤ rm.slots) (hd : decode cc pc = .ok (.new index, 3)) (kk : ∀ q : Nat, G (ws ++ [(q, .inr (ci, fs))]) (kc + 1) (ns + N) ls (pc + 3) (.ref q :: st)) : G ws kc ns ls pc st := by
  obtain ⟨p, e, s, m, args, below, meth, c, A, Q, ⟨hx, hb, hml, hown, hts⟩, hK, hZ0, hA, hPq, rfl⟩ := X
  intro H locs la hP hD hS h
  exact va_new hx hb hts hin ty hty hown (hts _ hcl) (hts _ hi1) (hts _ hi2) hK hP hD hS hA hc hfs h1 h2 hd (fun q H1 hP1 hD1 hS1 => kk q H1 locs la hP1 hD1 hS1 h)
theorem n_get (X : NX l D cA own cc nL rm P G) {index ci k0 b : Nat} (q0 : Nat) {fs : List Value} {a : Value} (hf : gFld own index ci k0) (he : ws[q0]? = some (b, .inr (ci, fs))) (ha : fs[k0]? = some a) (hd : decode cc pc = .ok (.getfield index, 3)) (kk : G ws kc ns ls (pc + 3) (a :: st)) : G ws kc ns ls pc (.ref b :: st) := by
  obtain ⟨p, e, s, m, args, below, meth, c, A, Q, ⟨hx, hb, hml, hown, hts⟩, hK, hZ0, hA, hPq, rfl⟩ := X
  obtain ⟨C, T, n, hc, hin, hk, hl⟩ := hf
  intro H locs la hP hD hS h
  rcases hl with hl | ⟨host, hl⟩
  · exact va_get hx hb hts hin hown hK hP q0 he hc k0 hk (hts _ hl) (fun _ q => q) ha hd (kk H locs la hP hD hS h)
  · exact va_getN hx hb hts hin hown hK hP q0 he hc k0 hk (hZ0.1.use hl) (fun _ q => q) ha hd (kk H locs la hP hD hS h)
theorem n_put (X : NX l D cA own cc nL rm P G) {index ci k0 b : Nat} (q0 : Nat) {fs : List Value} {a : Value} {ty : FieldType} (hf : gFldP own index ci k0 ty) (he : ws[q0]? = some (b, .inr (ci, fs))) (hk2 : k0 < fs.length) (hn : narrow ty a = a) (hfit : fits ty a = true) (hd : decode cc pc = .ok (.putfield index, 3)) (kk : G (ws.set q0 (b, .inr (ci, fs.set k0 a))) kc ns ls (pc + 3) st) : G ws kc ns ls pc (a :: .ref b :: st) := by
  obtain ⟨p, e, s, m, args, below, meth, c, A, Q, ⟨hx, hb, hml, hown, hts⟩, hK, hZ0, hA, hPq, rfl⟩ := X
  obtain ⟨C, T, n, ty0, hc, hin, hk, hty, hnm, hfin, het, hl⟩ := hf
  intro H locs la hP hD hS h
  have hpd : parseFieldDescriptor (T k0).2.2.1 = some ty := by rw [hty k0 hk, het]
  rcases hl with hl | ⟨host, hl⟩
  · exact va_put hx hb hts hin ty0 hty hnm hown hK hP hD hS q0 he hc k0 hk (hts _ hl) (fun _ q => q) hfin hpd hn hfit hk2 hd (fun H1 locs1 hP1 hD1 hS1 => kk H1 locs1 la hP1 hD1 hS1 h)
  · exact va_putN hx hb hts hin ty0 hty hnm hown hK hP hD hS q0 he hc k0 hk (hZ0.1.use hl) (fun _ q => q) hfin hpd hn hfit hk2 hd (fun H1 locs1 hP1 hD1 hS1 => kk H1 locs1 la hP1 hD1 hS1 h)
/-- a final field, within <init> -/
theorem n_putF (X : NX l D cA own cc nL rm P G) (hI : ∀ p e s m args below meth c A Q, P p e s m args below meth c A Q → meth.name = "<init>") {index ci k0 N b : Nat} (q0 : Nat) {C : String} {T : u_T} {fs : List Value} {a : Value} {ty : FieldType} (ty0 : Nat → FieldType) (hin : ∀ w ∈ u_ws C T N, w ∈ gw) (hty : ∀ k, k < N → parseFieldDescriptor (T k).2.2.1 = some (ty0 k)) (hnm : ∀ a, a < N → ∀ b, b < N → a ≠ b → (T a).2.1 ≠ (T b).2.1) (hc : vwCl[ci]? = some (C, T, N)) (hk : k0 < N) (hl : Cond.fieldLink own index (T k0).1 (T k0).2.1 (T k0).2.2.1 ∈ gw) (hfin : (T k0).2.2.2 = true) (hdecl : (T k0).1 = own) (het : ty0 k0 = ty) (he : ws[q0]? = some (b, .inr (ci, fs))) (hk2 : k0 < fs.length) (hn : narrow ty a = a) (hfit : fits ty a = true) (hd : decode cc pc = .ok (.putfield index, 3)) (kk : G (ws.set q0 (b, .inr (ci, fs.set k0 a))) kc ns ls (pc + 3) st) : G ws kc ns ls pc (a :: .ref b :: st) := by
  obtain ⟨p, e, s, m, args, below, meth, c, A, Q, ⟨hx, hb, hml, hown, hts⟩, hK, hZ0, hA, hPq, rfl⟩ := X
  intro H locs la hP hD hS h
  have hpd : parseFieldDescriptor (T k0).2.2.1 = some ty := by rw [hty k0 hk, het]
  exact va_putF hx hb hts hin ty0 hty hnm hown hK hP hD hS q0 he hc k0 hk (hts _ hl) (fun _ q => q) hfin (hI _ _ _ _ _ _ _ _ _ _ hPq) hdecl hpd hn hfit hk2 hd (fun H1 locs1 hP1 hD1 hS1 => kk H1 locs1 la hP1 hD1 hS1 h)
theorem n_iast (X : NX l D cA own cc nL rm P G) {b n : Nat} (q0 : Nat) {f : Nat → Int32} {x y : Int32} (he : ws[q0]? = some (b, .inl (cA 0, n, .inl f))) (hin : vp_in x n) (hd : decode cc pc = .ok (.iastore, 1)) (kk : G (ws.set q0 (b, .inl (cA 0, n, .inl (upd f x.toNatClampNeg y)))) kc ns ls (pc + 1) st) : G ws kc ns ls pc (.int y :: .int x :: .ref b :: st) := by
  obtain ⟨p, e, s, m, args, below, meth, c, A, Q, ⟨hx, hb, hml, hown, hts⟩, hK, hZ0, hA, hPq, rfl⟩ := X
  intro H locs la hP hD hS h
  exact va_iast hx hb hK hP hD hS q0 0 he rfl hin hd (fun H1 locs1 hP1 hD1 hS1 => kk H1 locs1 la hP1 hD1 hS1 h)
theorem n_iald (X : NX l D cA own cc nL rm P G) {b n : Nat} (q0 : Nat) {f : Nat → Int32} {x : Int32} (he : ws[q0]? = some (b, .inl (cA 0, n, .inl f))) (hin : vp_in x n) (hd : decode cc pc = .ok (.iaload, 1)) (kk : G ws kc ns ls (pc + 1) (.int (f x.toNatClampNeg) :: st)) : G ws kc ns ls pc (.int x :: .ref b :: st) := by
  obtain ⟨p, e, s, m, args, below, meth, c, A, Q, ⟨hx, hb, hml, hown, hts⟩, hK, hZ0, hA, hPq, rfl⟩ := X
  intro H locs la hP hD hS h
  exact va_iald hx hb hK hP q0 0 he rfl hin hd (kk H locs la hP hD hS h)
theorem n_alenQ (X : NX l D cA own cc nL rm P G) {b n : Nat} (q0 : Nat) {f : Nat → Option Nat} {x : Int32} (he : ws[q0]? = some (b, .inl (cA 1, n, .inr (.inr (.inr (.inr f)))))) (hx0 : Int32.ofNat n = x) (hd : decode cc pc = .ok (.arraylength, 1)) (kk : G ws kc ns ls (pc + 1) (.int x :: st)) : G ws kc ns ls pc (.ref b :: st) := by
  obtain ⟨p, e, s, m, args, below, meth, c, A, Q, ⟨hx, hb, hml, hown, hts⟩, hK, hZ0, hA, hPq, rfl⟩ := X
  intro H locs la hP hD hS h
  exact va_alen hx hb hK hP q0 1 he rfl hx0 hd (kk H locs la hP hD hS h)
theorem n_astq (X : NX l D cA own cc nL rm P G) {b n v : Nat} (q0 qk : Nat) {f : Nat → Option Nat} {vs : List Value} {x : Int32} (he : ws[q0]? = some (b, .inl (cA 1, n, .inr (.inr (.inr (.inr f)))))) (hv : ws[qk]? = some (v, .inr (4, vs))) (hin : vp_in x n) (hd : decode cc pc = .ok (.aastore, 1)) (kk : G (ws.set q0 (b, .inl (cA 1, n, .inr (.inr (.inr (.inr (va_up f x.toNatClampNeg (some v)))))))) kc ns ls (pc + 1) st) : G ws kc ns ls pc (.ref v :: .int x :: .ref b :: st) := by
  obtain ⟨p, e, s, m, args, below, meth, c, A, Q, ⟨hx, hb, hml, hown, hts⟩, hK, hZ0, hA, hPq, rfl⟩ := X
  intro H locs la hP hD hS h
  exact va_astq (r := (RX4, TX4, 4)) hx hb hK hP hD hS q0 1 qk 4 he rfl hv rfl hin hd (fun H1 locs1 hP1 hD1 hS1 => kk H1 locs1 la hP1 hD1 hS1 h)
end NXR
