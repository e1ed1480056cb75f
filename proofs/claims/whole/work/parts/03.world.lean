/-! the words of the tables that every method of this claim takes: those that keep -/
def gw : List Cond := lw_tbl.filter goodWord
theorem gw_good : GoodIn gw gw := fun w h => ⟨h, good_of_word (List.mem_filter.mp h).2⟩
theorem gw_tbl : ∀ w ∈ gw, w ∈ lw_tbl := fun w h => (List.mem_filter.mp h).1
abbrev gSh : Type := Nat → (Nat → Int32) → va_E
def cw (sh : gSh) (N : Nat) (r : Nat → Nat) (v : gV) : va_W := (List.range N).map (fun i => (r i, sh i (v i)))
theorem cw_get {sh : gSh} {N : Nat} {r : Nat → Nat} {v : gV} {i : Nat} (h : i < N) : (cw sh N r v)[i]? = some (r i, sh i (v i)) := by simp [cw, h]
theorem cw_len {sh : gSh} {N : Nat} {r : Nat → Nat} {v : gV} : (cw sh N r v).length = N := by simp [cw]
theorem cw_set {sh : gSh} {N : Nat} {r : Nat → Nat} {v : gV} {i : Nat} {f : Nat → Int32} (h : i < N) : (cw sh N r v).set i (r i, sh i f) = cw sh N r (up2 v i f) := by
  apply List.ext_getElem?
  intro j
  by_cases hj : j = i
  · subst hj
    rw [List.getElem?_set_self (by rw [cw_len]; exact h), cw_get h]
    simp [up2]
  · rw [List.getElem?_set_ne (Ne.symm hj)]
    by_cases hN : j < N
    · rw [cw_get hN, cw_get hN]
      simp [up2, hj]
    · simp [cw, hN]
def gA (N : Nat) (r : Nat → Nat) (sz : Nat) : Nat → Prop := fun q => (∃ i, i < N ∧ q = r i) ∨ sz ≤ q
theorem cw_D {sh : gSh} {N : Nat} {r : Nat → Nat} {v : gV} {A : Nat → Prop} {sz : Nat} (h : va_D A (cw sh N r v)) : va_D (gA N r sz) (cw sh N r v) := by
  refine ⟨h.1, fun k q hk => ?_⟩
  have hl : k < N := by
    have := (List.getElem?_eq_some_iff.mp hk).1
    rwa [cw_len] at this
  rw [cw_get hl] at hk
  cases hk
  exact Or.inl ⟨k, hl, rfl⟩
theorem cw_in {sh : gSh} {N : Nat} {r : Nat → Nat} {v : gV} {A : Nat → Prop} {sz : Nat} (h : va_D A (cw sh N r v)) (hz : ∀ q, sz ≤ q → A q) : ∀ q, gA N r sz q → A q := by
  rintro q (⟨i, hi, rfl⟩ | hq)
  · exact h.2 i _ (cw_get hi)
  · exact hz q hq
/-! the links between nest mates: they keep by rows of their own -/
def gisN : Cond → Bool
  | .fieldLinkNest _ _ _ _ _ _ => true
  | .methodLinkNest _ _ _ _ => true
  | _ => false
def gnest : List Cond := lw_tbl.filter gisN
theorem gnest_tbl : ∀ w ∈ gnest, w ∈ lw_tbl := fun w h => (List.mem_filter.mp h).1
def gNs (U : State) : Prop := ∀ w ∈ gnest, va_Nw w U
theorem gNs.same {u U : State} (h : U.vm = u.vm) (hN : gNs u) : gNs U := fun w hw => by
  have h1 := (List.mem_filter.mp hw).2
  have h2 := hN w hw
  cases w <;> first | exact va_Nw.same rfl h.symm h2 | (simp [gisN] at h1)
theorem gNs.warm {u U : State} (hW : u.WarmedH U.vm) (hN : gNs u) : gNs U := fun w hw => by
  have h1 := (List.mem_filter.mp hw).2
  have h2 := hN w hw
  cases w <;> first | exact va_Nw.warmF hW h2 | exact va_Nw.warmM hW h2 | (simp [gisN] at h1)
theorem gNs.use {U : State} (hN : gNs U) {w : Cond} (hw : w ∈ gnest) {A : Array Value} : w.before A U = true := by
  have h1 := (List.mem_filter.mp hw).2
  have h2 := hN w hw
  cases w <;> first | exact va_Nw.use rfl h2 | (simp [gisN] at h1)
/-! what of the statics and of the strings stands outside the world -/
abbrev gZ : Type := (Nat → Prop) → State → Heap → Prop
def gZok (Z : gZ) : Prop := ((∀ A u U H, U.vm = u.vm → Z A u H → Z A U H) ∧ ∀ (A : Nat → Prop) (u U : State) (H : Heap), u.WarmedH U.vm → Z A u H → Z A U H) ∧ (∀ A U H H1, Z A U H → (∀ a : Nat, a < H.size → ¬ A a → H1[a]? = H[a]?) → Z A U H1) ∧ (∀ A B U H, Z A U H → (∀ q, B q → A q) → Z B U H) ∧ ∀ A U H, Z A U H → gNs U
abbrev gT : Type := List (ClassId × FieldType)
def QW (D : va_G) (tys : gT) (sh : gSh) (N : Nat) (r : Nat → Nat) (A : Nat → Prop) (res : Option Value) (v' : gV) : Array Value → State → Outcome → State → Prop :=
  fun _ st oc t => oc = .returned res ∧ (va_P D vwCl (cw sh N r v') t.heap ∧ va_K D vwCl tys t ∧ va_D A (cw sh N r v')) ∧ va_F A st t
/-- a contract: from the world v, with these arguments, the method answers res and leaves the world v' -/
def Ct (l : Launch) (D : va_G) (tys : gT) (sh : gSh) (N : Nat) (r : Nat → Nat) (Z : gZ) (y : MethodName) (cc : ByteArray) (nL : Nat) (ret : Option FieldType) (rm : Room) (as : List Value) (v : gV) (res : Option Value) (v' : gV) : Prop :=
  ∀ sz : Nat, Met l y (.code y cc nL ret :: gw) rm (va_Pc as (fun U => U.heap.size = sz ∧ va_P D vwCl (cw sh N r v) U.heap ∧ va_K D vwCl tys U ∧ va_D (fun _ => True) (cw sh N r v) ∧ Z (gA N r sz) U U.heap)) (QW D tys sh N r (gA N r sz) res v') 0 0 (gA N r sz)
abbrev gG : Type := gV → List (Nat × Value) → Nat → List Value → Prop
/-- a method's body under way: G v ls pc st says that from there it comes to its end with res and v' -/
def CX (l : Launch) (D : va_G) (tys : gT) (sh : gSh) (N : Nat) (r : Nat → Nat) (Z : gZ) (own : String) (cc : ByteArray) (nL : Nat) (ret : Option FieldType) (rm : Room) (res : Option Value) (v' : gV) (G : gG) : Prop :=
  ∃ (p : Program) (e : Env) (s : State) (m : MethodId) (args : Array Value) (below : List Frame) (meth : Method) (c : Code) (A : Nat → Prop),
    (p.tables.exec = Jvm.exec ∧ c.code = cc ∧ c.maxLocals = nL ∧ s.vm.findClass own = some m.cls ∧ ∀ w ∈ gw, w.before args s = true) ∧ meth.sig.returnType = ret ∧ meth.locks = false ∧
    va_K D vwCl tys s ∧ Z A s s.heap ∧ gZok Z ∧ (∀ q, s.heap.size ≤ q → A q) ∧
    G = fun v ls pc st => ∀ (H : Heap) (locs : List Loc) (la : Array Slot), va_P D vwCl (cw sh N r v) H → va_D A (cw sh N r v) → va_S A s.heap H locs → lv_has la nL ls →
      W p l e rm s m args below meth c H locs 0 0 (MQ below (QW D tys sh N r A res v') args s 0 0 A) (F0 m pc la st)
theorem ct_of {l : Launch} {D : va_G} {tys : gT} {sh : gSh} {N : Nat} {r : Nat → Nat} {Z : gZ} {y : MethodName} {cc : ByteArray} {nL : Nat} {ret : Option FieldType} {rm : Room} {as : List Value} {v : gV} {res : Option Value} {v' : gV}
    (hy : plainName y.cls = true) (hZ : gZok Z) (hn : (lg_sl as).length ≤ nL) {ls : List (Nat × Value)} (hls : lv_args 0 as = ls)
    (body : ∀ G : gG, CX l D tys sh N r Z y.cls cc nL ret rm res v' G → G v ls 0 []) : Ct l D tys sh N r Z y cc nL ret rm as v res v' := by
  intro sz
  refine Met.ofW (cc := cc) (maxL := nL) (ret := ret) hy rfl ?_
  intro p e s m args below meth c s₁ B hml hv
  obtain ⟨rfl, hsz, hP, hK, hD0, hZ0⟩ := hv
  have hts := atoms_spec (ws := .code y cc nL ret :: gw) B.pre
  have hD := cw_D (sz := sz) hD0
  subst hsz
  subst hls
  have hl := lv_entry as (n := nL) hn
  rw [lg_entry_eq]
  exact body _ ⟨p, e, s, m, _, below, meth, c, gA N r s.heap.size, ⟨B.exec, B.bytes, hml, findClass_of_methodNamed B.named, fun w hw => hts w (List.mem_cons_of_mem _ hw)⟩, B.returns, B.notSynchronized, hK, hZ0, hZ, fun q h => Or.inr h, rfl⟩ s.heap [] _ hP hD va_S.rf hl
section GX
variable {l : Launch} {D : va_G} {tys : gT} {sh : gSh} {N : Nat} {r : Nat → Nat} {Z : gZ} {own : String} {cc : ByteArray} {nL : Nat} {ret : Option FieldType} {rm : Room} {res : Option Value} {v' : gV} {G : gG}
variable {v : gV} {ls : List (Nat × Value)} {pc : Nat} {st : List Value}
theorem g_sub (X : CX l D tys sh N r Z own cc nL ret rm res v' G) (ks : List Nat) {ls' : List (Nat × Value)} (hl : lv_pick ls ks = ls') (k : G v ls' pc st) : G v ls pc st := by
  obtain ⟨p, e, s, m, args, below, meth, c, A, ⟨hx, hb, hml, hown, hts⟩, hr, hlk, hK, hZ0, hZ, hA, rfl⟩ := X
  intro H locs la hP hD hS h
  exact k H locs la hP hD hS (lv_sub h ks hl)
theorem g_iconst (X : CX l D tys sh N r Z own cc nL ret rm res v' G) {n : Int} (x : Int32) (hd : decode cc pc = .ok (.iconst n, 1)) (hv : Int32.ofInt n = x) (k : G v ls (pc + 1) (.int x :: st)) : G v ls pc st := by
  obtain ⟨p, e, s, m, args, below, meth, c, A, ⟨hx, hb, hml, hown, hts⟩, hr, hlk, hK, hZ0, hZ, hA, rfl⟩ := X
  intro H locs la hP hD hS h
  exact lv_iconst hx hb hd hv (k H locs la hP hD hS h)
theorem g_bipush (X : CX l D tys sh N r Z own cc nL ret rm res v' G) {n : Int} (x : Int32) (hd : decode cc pc = .ok (.bipush n, 2)) (hv : (Int8.ofInt n).toInt32 = x) (k : G v ls (pc + 2) (.int x :: st)) : G v ls pc st := by
  obtain ⟨p, e, s, m, args, below, meth, c, A, ⟨hx, hb, hml, hown, hts⟩, hr, hlk, hK, hZ0, hZ, hA, rfl⟩ := X
  intro H locs la hP hD hS h
  exact lv_bipush hx hb hd hv (k H locs la hP hD hS h)
theorem g_sipush (X : CX l D tys sh N r Z own cc nL ret rm res v' G) {n : Int} (x : Int32) (hd : decode cc pc = .ok (.sipush n, 3)) (hv : (Int16.ofInt n).toInt32 = x) (k : G v ls (pc + 3) (.int x :: st)) : G v ls pc st := by
  obtain ⟨p, e, s, m, args, below, meth, c, A, ⟨hx, hb, hml, hown, hts⟩, hr, hlk, hK, hZ0, hZ, hA, rfl⟩ := X
  intro H locs la hP hD hS h
  exact lv_sipush hx hb hd hv (k H locs la hP hD hS h)
theorem g_ldc (X : CX l D tys sh N r Z own cc nL ret rm res v' G) {index : Nat} {x : Int32} (hc : Cond.constant own index x ∈ gw) (hd : decode cc pc = .ok (.ldc index, 2)) (k : G v ls (pc + 2) (.int x :: st)) : G v ls pc st := by
  obtain ⟨p, e, s, m, args, below, meth, c, A, ⟨hx, hb, hml, hown, hts⟩, hr, hlk, hK, hZ0, hZ, hA, rfl⟩ := X
  intro H locs la hP hD hS h
  exact lv_ldc hx hb hown (hts _ hc) hd (k H locs la hP hD hS h)
theorem g_ldc2 (X : CX l D tys sh N r Z own cc nL ret rm res v' G) {index : Nat} {x : Int64} (hc : Cond.constantLong own index x ∈ gw) (hd : decode cc pc = .ok (.ldc2_w index, 3)) (k : G v ls (pc + 3) (.long x :: st)) : G v ls pc st := by
  obtain ⟨p, e, s, m, args, below, meth, c, A, ⟨hx, hb, hml, hown, hts⟩, hr, hlk, hK, hZ0, hZ, hA, rfl⟩ := X
  intro H locs la hP hD hS h
  exact lv_ldc2 hx hb hown (hts _ hc) hd (k H locs la hP hD hS h)
theorem g_lconst (X : CX l D tys sh N r Z own cc nL ret rm res v' G) {n : Fin 2} (x : Int64) (hd : decode cc pc = .ok (.lconst n, 1)) (hv : Int64.ofNat (n : Nat) = x) (k : G v ls (pc + 1) (.long x :: st)) : G v ls pc st := by
  obtain ⟨p, e, s, m, args, below, meth, c, A, ⟨hx, hb, hml, hown, hts⟩, hr, hlk, hK, hZ0, hZ, hA, rfl⟩ := X
  intro H locs la hP hD hS h
  exact lv_lconst hx hb hd hv (k H locs la hP hD hS h)
theorem g_iload_n (X : CX l D tys sh N r Z own cc nL ret rm res v' G) {k : Fin 4} {i : Nat} {x : Int32} (hd : decode cc pc = .ok (.iload_n k, 1)) (hi : (k : Nat) = i) (q : Nat) (hq : ls[q]? = some (i, .int x)) (kk : G v ls (pc + 1) (.int x :: st)) : G v ls pc st := by
  obtain ⟨p, e, s, m, args, below, meth, c, A, ⟨hx, hb, hml, hown, hts⟩, hr, hlk, hK, hZ0, hZ, hA, rfl⟩ := X
  intro H locs la hP hD hS h
  exact lv_iload_n hx hb hd hi (lv_at h q hq) (kk H locs la hP hD hS h)
theorem g_iload (X : CX l D tys sh N r Z own cc nL ret rm res v' G) {i : Nat} {x : Int32} (hd : decode cc pc = .ok (.iload i, 2)) (q : Nat) (hq : ls[q]? = some (i, .int x)) (kk : G v ls (pc + 2) (.int x :: st)) : G v ls pc st := by
  obtain ⟨p, e, s, m, args, below, meth, c, A, ⟨hx, hb, hml, hown, hts⟩, hr, hlk, hK, hZ0, hZ, hA, rfl⟩ := X
  intro H locs la hP hD hS h
  exact lv_iload hx hb hd (lv_at h q hq) (kk H locs la hP hD hS h)
theorem g_lload_n (X : CX l D tys sh N r Z own cc nL ret rm res v' G) {k : Fin 4} {i : Nat} {x : Int64} (hd : decode cc pc = .ok (.lload_n k, 1)) (hi : (k : Nat) = i) (q : Nat) (hq : ls[q]? = some (i, .long x)) (kk : G v ls (pc + 1) (.long x :: st)) : G v ls pc st := by
  obtain ⟨p, e, s, m, args, below, meth, c, A, ⟨hx, hb, hml, hown, hts⟩, hr, hlk, hK, hZ0, hZ, hA, rfl⟩ := X
  intro H locs la hP hD hS h
  exact lv_lload_n hx hb hd hi (lv_at h q hq) (kk H locs la hP hD hS h)
theorem g_lload (X : CX l D tys sh N r Z own cc nL ret rm res v' G) {i : Nat} {x : Int64} (hd : decode cc pc = .ok (.lload i, 2)) (q : Nat) (hq : ls[q]? = some (i, .long x)) (kk : G v ls (pc + 2) (.long x :: st)) : G v ls pc st := by
  obtain ⟨p, e, s, m, args, below, meth, c, A, ⟨hx, hb, hml, hown, hts⟩, hr, hlk, hK, hZ0, hZ, hA, rfl⟩ := X
  intro H locs la hP hD hS h
  exact lv_lload hx hb hd (lv_at h q hq) (kk H locs la hP hD hS h)
theorem g_aload_nQ (X : CX l D tys sh N r Z own cc nL ret rm res v' G) {k : Fin 4} {i : Nat} {a : Option Nat} (hd : decode cc pc = .ok (.aload_n k, 1)) (hi : (k : Nat) = i) (q : Nat) (hq : ls[q]? = some (i, va_rf a)) (kk : G v ls (pc + 1) (va_rf a :: st)) : G v ls pc st := by
  obtain ⟨p, e, s, m, args, below, meth, c, A, ⟨hx, hb, hml, hown, hts⟩, hr, hlk, hK, hZ0, hZ, hA, rfl⟩ := X
  intro H locs la hP hD hS h
  cases a with
  | none => exact lv_aload_nN hx hb hd hi (lv_at h q hq) (kk H locs la hP hD hS h)
  | some a => exact lv_aload_n hx hb hd hi (lv_at h q hq) (kk H locs la hP hD hS h)
theorem g_aloadQ (X : CX l D tys sh N r Z own cc nL ret rm res v' G) {i : Nat} {a : Option Nat} (hd : decode cc pc = .ok (.aload i, 2)) (q : Nat) (hq : ls[q]? = some (i, va_rf a)) (kk : G v ls (pc + 2) (va_rf a :: st)) : G v ls pc st := by
  obtain ⟨p, e, s, m, args, below, meth, c, A, ⟨hx, hb, hml, hown, hts⟩, hr, hlk, hK, hZ0, hZ, hA, rfl⟩ := X
  intro H locs la hP hD hS h
  cases a with
  | none => exact lv_aloadN hx hb hd (lv_at h q hq) (kk H locs la hP hD hS h)
  | some a => exact lv_aload hx hb hd (lv_at h q hq) (kk H locs la hP hD hS h)
theorem g_istore_n (X : CX l D tys sh N r Z own cc nL ret rm res v' G) {k : Fin 4} {i : Nat} {x : Int32} (ls' : List (Nat × Value)) (hd : decode cc pc = .ok (.istore_n k, 1)) (hi : (k : Nat) = i) (hn : i < nL) (hl : (i, Value.int x) :: ls.filter (fun q => !(q.1 == i) && !(q.1 + 1 == i && q.2.category == 2)) = ls') (kk : G v ls' (pc + 1) st) : G v ls pc (.int x :: st) := by
  obtain ⟨p, e, s, m, args, below, meth, c, A, ⟨hx, hb, hml, hown, hts⟩, hr, hlk, hK, hZ0, hZ, hA, rfl⟩ := X
  intro H locs la hP hD hS h
  exact lv_istore_n hx hb hd hi h hn hl (fun la' h' => kk H locs la' hP hD hS h')
theorem g_istore (X : CX l D tys sh N r Z own cc nL ret rm res v' G) {i : Nat} {x : Int32} (ls' : List (Nat × Value)) (hd : decode cc pc = .ok (.istore i, 2)) (hn : i < nL) (hl : (i, Value.int x) :: ls.filter (fun q => !(q.1 == i) && !(q.1 + 1 == i && q.2.category == 2)) = ls') (kk : G v ls' (pc + 2) st) : G v ls pc (.int x :: st) := by
  obtain ⟨p, e, s, m, args, below, meth, c, A, ⟨hx, hb, hml, hown, hts⟩, hr, hlk, hK, hZ0, hZ, hA, rfl⟩ := X
  intro H locs la hP hD hS h
  exact lv_istore hx hb hd h hn hl (fun la' h' => kk H locs la' hP hD hS h')
theorem g_lstore_n (X : CX l D tys sh N r Z own cc nL ret rm res v' G) {k : Fin 4} {i : Nat} {x : Int64} (ls' : List (Nat × Value)) (hd : decode cc pc = .ok (.lstore_n k, 1)) (hi : (k : Nat) = i) (hn : i + 1 < nL) (hl : (i, Value.long x) :: ls.filter (fun q => !(q.1 == i) && (!(q.1 == i + 1) && !(q.1 + 1 == i && q.2.category == 2))) = ls') (kk : G v ls' (pc + 1) st) : G v ls pc (.long x :: st) := by
  obtain ⟨p, e, s, m, args, below, meth, c, A, ⟨hx, hb, hml, hown, hts⟩, hr, hlk, hK, hZ0, hZ, hA, rfl⟩ := X
  intro H locs la hP hD hS h
  exact lv_lstore_n hx hb hd hi h hn hl (fun la' h' => kk H locs la' hP hD hS h')
theorem g_lstore (X : CX l D tys sh N r Z own cc nL ret rm res v' G) {i : Nat} {x : Int64} (ls' : List (Nat × Value)) (hd : decode cc pc = .ok (.lstore i, 2)) (hn : i + 1 < nL) (hl : (i, Value.long x) :: ls.filter (fun q => !(q.1 == i) && (!(q.1 == i + 1) && !(q.1 + 1 == i && q.2.category == 2))) = ls') (kk : G v ls' (pc + 2) st) : G v ls pc (.long x :: st) := by
  obtain ⟨p, e, s, m, args, below, meth, c, A, ⟨hx, hb, hml, hown, hts⟩, hr, hlk, hK, hZ0, hZ, hA, rfl⟩ := X
  intro H locs la hP hD hS h
  exact lv_lstore hx hb hd h hn hl (fun la' h' => kk H locs la' hP hD hS h')
theorem g_astore_nQ (X : CX l D tys sh N r Z own cc nL ret rm res v' G) {k : Fin 4} {i : Nat} {a : Option Nat} (ls' : List (Nat × Value)) (hd : decode cc pc = .ok (.astore_n k, 1)) (hi : (k : Nat) = i) (hn : i < nL) (hl : (i, va_rf a) :: ls.filter (fun q => !(q.1 == i) && !(q.1 + 1 == i && q.2.category == 2)) = ls') (kk : G v ls' (pc + 1) st) : G v ls pc (va_rf a :: st) := by
  obtain ⟨p, e, s, m, args, below, meth, c, A, ⟨hx, hb, hml, hown, hts⟩, hr, hlk, hK, hZ0, hZ, hA, rfl⟩ := X
  intro H locs la hP hD hS h
  cases a with
  | none => exact lv_astore_nN hx hb hd hi h hn hl (fun la' h' => kk H locs la' hP hD hS h')
  | some a => exact lv_astore_n hx hb hd hi h hn hl (fun la' h' => kk H locs la' hP hD hS h')
theorem g_astoreQ (X : CX l D tys sh N r Z own cc nL ret rm res v' G) {i : Nat} {a : Option Nat} (ls' : List (Nat × Value)) (hd : decode cc pc = .ok (.astore i, 2)) (hn : i < nL) (hl : (i, va_rf a) :: ls.filter (fun q => !(q.1 == i) && !(q.1 + 1 == i && q.2.category == 2)) = ls') (kk : G v ls' (pc + 2) st) : G v ls pc (va_rf a :: st) := by
  obtain ⟨p, e, s, m, args, below, meth, c, A, ⟨hx, hb, hml, hown, hts⟩, hr, hlk, hK, hZ0, hZ, hA, rfl⟩ := X
  intro H locs la hP hD hS h
  cases a with
  | none => exact lv_astoreN hx hb hd h hn hl (fun la' h' => kk H locs la' hP hD hS h')
  | some a => exact lv_astore hx hb hd h hn hl (fun la' h' => kk H locs la' hP hD hS h')
theorem g_iinc (X : CX l D tys sh N r Z own cc nL ret rm res v' G) {i : Nat} {n : Int} {x : Int32} (y : Int32) (ls' : List (Nat × Value)) (hd : decode cc pc = .ok (.iinc i n, 3)) (q : Nat) (hq : ls[q]? = some (i, .int x)) (hy : x + Int32.ofInt n = y) (hn : i < nL) (hl : (i, Value.int y) :: ls.filter (fun q => !(q.1 == i) && !(q.1 + 1 == i && q.2.category == 2)) = ls') (kk : G v ls' (pc + 3) st) : G v ls pc st := by
  obtain ⟨p, e, s, m, args, below, meth, c, A, ⟨hx, hb, hml, hown, hts⟩, hr, hlk, hK, hZ0, hZ, hA, rfl⟩ := X
  intro H locs la hP hD hS h
  exact lv_iinc hx hb hd h hq hy hn hl (fun la' h' => kk H locs la' hP hD hS h')
theorem g_aload_n (X : CX l D tys sh N r Z own cc nL ret rm res v' G) {k : Fin 4} {i a : Nat} (hd : decode cc pc = .ok (.aload_n k, 1)) (hi : (k : Nat) = i) (q : Nat) (hq : ls[q]? = some (i, .ref a)) (k : G v ls (pc + 1) (.ref a :: st)) : G v ls pc (st) := by
  obtain ⟨p, e, s, m, args, below, meth, c, A, ⟨hx, hb, hml, hown, hts⟩, hr, hlk, hK, hZ0, hZ, hA, rfl⟩ := X
  intro H locs la hP hD hS h
  exact lv_aload_n hx hb hd hi (lv_at h q hq) (k H locs la hP hD hS h)
theorem g_aload (X : CX l D tys sh N r Z own cc nL ret rm res v' G) {i a : Nat} (hd : decode cc pc = .ok (.aload i, 2)) (q : Nat) (hq : ls[q]? = some (i, .ref a)) (k : G v ls (pc + 2) (.ref a :: st)) : G v ls pc (st) := by
  obtain ⟨p, e, s, m, args, below, meth, c, A, ⟨hx, hb, hml, hown, hts⟩, hr, hlk, hK, hZ0, hZ, hA, rfl⟩ := X
  intro H locs la hP hD hS h
  exact lv_aload hx hb hd (lv_at h q hq) (k H locs la hP hD hS h)
theorem g_astore_n (X : CX l D tys sh N r Z own cc nL ret rm res v' G) {k : Fin 4} {i a : Nat} (ls' : List (Nat × Value)) (hd : decode cc pc = .ok (.astore_n k, 1)) (hi : (k : Nat) = i) (hn : i < nL) (hl : (i, Value.ref a) :: ls.filter (fun q => !(q.1 == i) && !(q.1 + 1 == i && q.2.category == 2)) = ls') (k : G v ls' (pc + 1) st) : G v ls pc (.ref a :: st) := by
  obtain ⟨p, e, s, m, args, below, meth, c, A, ⟨hx, hb, hml, hown, hts⟩, hr, hlk, hK, hZ0, hZ, hA, rfl⟩ := X
  intro H locs la hP hD hS h
  exact lv_astore_n hx hb hd hi h hn hl (fun la' h' => k H locs la' hP hD hS h')
theorem g_astore (X : CX l D tys sh N r Z own cc nL ret rm res v' G) {i a : Nat} (ls' : List (Nat × Value)) (hd : decode cc pc = .ok (.astore i, 2)) (hn : i < nL) (hl : (i, Value.ref a) :: ls.filter (fun q => !(q.1 == i) && !(q.1 + 1 == i && q.2.category == 2)) = ls') (k : G v ls' (pc + 2) st) : G v ls pc (.ref a :: st) := by
  obtain ⟨p, e, s, m, args, below, meth, c, A, ⟨hx, hb, hml, hown, hts⟩, hr, hlk, hK, hZ0, hZ, hA, rfl⟩ := X
  intro H locs la hP hD hS h
  exact lv_astore hx hb hd h hn hl (fun la' h' => k H locs la' hP hD hS h')
end GX
