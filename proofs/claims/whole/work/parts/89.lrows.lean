/-! THE CLAIM OUT OF ONE WALK OF THE LAW'S BODY. Your part is whole_start (and what it stands on); all else here is the same for every law, but numbers. -/
def R_law : String := "ThreeEmptiesLaw"
def lw_P (b : Addr) (xs : List Int32) (args : Array Value) (s : State) : Prop := args = #[.ref b] ∧ s.IntsAt b xs ∧ xs.length ≤ 3584 ∧ (Jvm.Cond.and given_1 narrow_1).before args s = true
def lw_Q (_ : Array Value) (s : State) (o : Outcome) (t : State) : Prop := o = .returned (some (.int 1)) ∧ Framed s o t [] 600000 7302250
def lw_Z (below : List Frame) (a : Array Value) (s : State) : State → Prop := fun t => ∃ o, t.status = .running ∧ Ended t below o ∧ lw_Q a s o t
/-- the law's own end, with 1 on the stack, nothing written that was there before, its room as the claim has it -/
theorem lw_ret {p : Program} {l : Launch} {e : Env} {s : State} {m : MethodId} {below : List Frame} {meth : Method} {c : Code} {b : Nat} (hx : p.tables.exec = Jvm.exec) (hb : c.code = code) (hr : meth.sig.returnType = ret) (hlocks : meth.locks = false) {pc : Nat} {H : Heap} {ls : Array Slot} (hdg : decode code pc = .ok (.ireturn, 1)) : W p l e room_1 s m #[Value.ref b] below meth c H [] 600000 7302250 (lw_Z below #[Value.ref b] s) (F0 m pc ls [.int 1]) := by
  intro T hT X
  obtain ⟨fs, hret, hrun, hended, hW, hframe⟩ := X.leave (v := some (.int 1)) (hlocks := hlocks) (fun h => by rw [hr] at h; cases h)
  have hmeth' : T.vm.method? m = some meth := X.method'
  refine ⟨T.setFrames fs, ?_, .returned (some (.int 1)), hrun, hended, rfl, ⟨_, rfl⟩, hW, hframe⟩
  jvm_step X.here [X.here.top, hx, hb, hdg, hmeth', hr, ret, narrow_b1]
  (try refine ⟨rfl, ?_⟩); (try refine ⟨rfl, ?_⟩)
  first | (intro acts; rw [hret _ acts rfl rfl rfl]) | rw [hret _ _ rfl rfl rfl]
  exact Steps.refl _
/-- what holds at the law's entry: the machine, the code, the tables' words (any of lw_tbl by 'hts w (by decide +kernel)'), the script of L ints xs at the cell b, what the Statement gives of the start (any of its parts by flat_of_before) -/
def lw_At (p : Program) (s : State) (m : MethodId) (meth : Method) (c : Code) (b L : Nat) (xs : Nat → Int32) : Prop :=
  p.tables.exec = Jvm.exec ∧ c.code = code ∧ meth.sig.returnType = ret ∧ c.maxLocals = 4 ∧ s.vm.findClass R_law = some m.cls ∧ (∀ w ∈ lw_tbl, w.before #[Value.ref b] s = true) ∧ va_X b L xs s s.heap ∧ b < s.heap.size ∧ meth.locks = false ∧ (Jvm.Cond.and given_1 narrow_1).before #[Value.ref b] s = true
/-! a walk of the law: rows -/
/-- what the law's own walk knows -/
def lP (b L : Nat) (xs : Nat → Int32) (rS : Nat → Nat) : nP := fun _ _ s _ args below meth _ A Q => (args = #[Value.ref b] ∧ A = (fun q => s.heap.size ≤ q) ∧ Q = lw_Z below #[Value.ref b] s) ∧ (va_X b L xs s s.heap ∧ b < s.heap.size) ∧ (meth.sig.returnType = ret ∧ meth.locks = false) ∧ ∀ r : Nat → Nat, (∀ i, 50 ≤ i → r i = rS i) → ZC r A s s.heap
theorem pick_l {a b : va_W} {n : Nat} (h : a.length = n) : (List.range n).map (fun i => (a ++ b)[i]?) = a.map some := by
  subst h
  apply List.ext_getElem?
  intro i
  rw [List.getElem?_map, List.getElem?_map]
  by_cases c : i < a.length
  · rw [List.getElem?_range c, List.getElem?_eq_getElem c]
    show some ((a ++ b)[i]?) = _
    rw [List.getElem?_append_left c, List.getElem?_eq_getElem c]
    rfl
  · rw [List.getElem?_eq_none (by rw [List.length_range]; omega), List.getElem?_eq_none (by omega)]
    rfl
theorem pick_r {a b : va_W} {n k : Nat} (h : a.length = n) (hb : b.length = k) : ((List.range k).map (fun i => n + i)).map (fun i => (a ++ b)[i]?) = b.map some := by
  subst h
  subst hb
  apply List.ext_getElem?
  intro i
  rw [List.getElem?_map, List.getElem?_map, List.getElem?_map]
  by_cases c : i < b.length
  · rw [List.getElem?_range c, List.getElem?_eq_getElem c]
    show some ((a ++ b)[a.length + i]?) = _
    rw [List.getElem?_append_right (by omega), Nat.add_sub_cancel_left, List.getElem?_eq_getElem c]
    rfl
  · rw [List.getElem?_eq_none (by rw [List.length_range]; omega), List.getElem?_eq_none (by omega)]
    rfl
section LXR
variable {l : Launch} {D : va_G} {cA : Nat → ClassId} {G : nG} {b L : Nat} {xs : Nat → Int32} {rS : Nat → Nat}
variable {ws : va_W} {kc ns : Nat} {ls : List (Nat × Value)} {pc : Nat} {st : List Value}
theorem l_lcmp (X : NX l D cA R_law code 4 room_1 (lP b L xs rS) G) {x y : Int64} (hd : decode code pc = .ok (.lcmp, 1)) (kk : G ws kc ns ls (pc + 1) (.int (lg_cmp x y) :: st)) : G ws kc ns ls pc (.long y :: .long x :: st) := by
  obtain ⟨p, e, s, m, args, below, meth, c, A, Q, ⟨hx, hb, hml, hown, hts⟩, hK, hZ0, hA, hPq, rfl⟩ := X
  intro H locs la hP hD hS h
  exact W.lcmp hx hb hd (kk H locs la hP hD hS h)
theorem l_if_eq (X : NX l D cA R_law code 4 room_1 (lP b L xs rS) G) {x : Int32} {off : Int} (tgt : Nat) (hd : decode code pc = .ok (.ifCond .eq off, 3)) (ht : (pc : Int) + off = (tgt : Int)) (kt : x = 0 → G ws kc ns ls tgt st) (kf : ¬ x = 0 → G ws kc ns ls (pc + 3) st) : G ws kc ns ls pc (.int x :: st) := by
  obtain ⟨p, e, s, m, args, below, meth, c, A, Q, ⟨hx, hb, hml, hown, hts⟩, hK, hZ0, hA, hPq, rfl⟩ := X
  intro H locs la hP hD hS h
  exact lv_if_eq hx hb hd ht (fun q => kt q H locs la hP hD hS h) (fun q => kf q H locs la hP hD hS h)
theorem l_tabIn (X : NX l D cA R_law code 4 room_1 (lP b L xs rS) G) {dflt lo hi : Int} {offs : Array Int} {len : Nat} {x : Int32} {off : Int} (tgt : Nat) (hd : decode code pc = .ok (.tableswitch dflt lo hi offs, len)) (h1 : ¬ x.toInt < lo) (h2 : ¬ hi < x.toInt) (ho : offs[(x.toInt - lo).toNat]? = some off) (ht : (pc : Int) + off = (tgt : Int)) (kk : G ws kc ns ls tgt st) : G ws kc ns ls pc (.int x :: st) := by
  obtain ⟨p, e, s, m, args, below, meth, c, A, Q, ⟨hx, hb, hml, hown, hts⟩, hK, hZ0, hA, hPq, rfl⟩ := X
  intro H locs la hP hD hS h
  exact lv_tableIn hx hb hd h1 h2 ho ht (kk H locs la hP hD hS h)
theorem l_tabOut (X : NX l D cA R_law code 4 room_1 (lP b L xs rS) G) {dflt lo hi : Int} {offs : Array Int} {len : Nat} {x : Int32} (tgt : Nat) (hd : decode code pc = .ok (.tableswitch dflt lo hi offs, len)) (h1 : x.toInt < lo ∨ hi < x.toInt) (ht : (pc : Int) + dflt = (tgt : Int)) (kk : G ws kc ns ls tgt st) : G ws kc ns ls pc (.int x :: st) := by
  obtain ⟨p, e, s, m, args, below, meth, c, A, Q, ⟨hx, hb, hml, hown, hts⟩, hK, hZ0, hA, hPq, rfl⟩ := X
  intro H locs la hP hD hS h
  exact lv_tableOut hx hb hd h1 ht (kk H locs la hP hD hS h)
theorem l_len (X : NX l D cA R_law code 4 room_1 (lP b L xs rS) G) (hd : decode code pc = .ok (.arraylength, 1)) (kk : G ws kc ns ls (pc + 1) (.int (nI L) :: st)) : G ws kc ns ls pc (.ref b :: st) := by
  obtain ⟨p, e, s, m, args, below, meth, c, A, Q, ⟨hx, hb, hml, hown, hts⟩, hK, hZ0, hA, ⟨⟨-, rfl, -⟩, ⟨hX, hbl⟩, -⟩, rfl⟩ := X
  intro H locs la hP hD hS h
  exact va_slen hx hb hX hbl (Nat.not_le.mpr hbl) hS hd (kk H locs la hP hD hS h)
theorem l_ld (X : NX l D cA R_law code 4 room_1 (lP b L xs rS) G) {x : Int32} (j : Nat) (hxj : x = nI j) (hj : j < L) (hL : L ≤ 3584) (hd : decode code pc = .ok (.iaload, 1)) (kk : G ws kc ns ls (pc + 1) (.int (xs j) :: st)) : G ws kc ns ls pc (.int x :: .ref b :: st) := by
  obtain ⟨p, e, s, m, args, below, meth, c, A, Q, ⟨hx, hb, hml, hown, hts⟩, hK, hZ0, hA, ⟨⟨-, rfl, -⟩, ⟨hX, hbl⟩, -⟩, rfl⟩ := X
  subst hxj
  intro H locs la hP hD hS h
  refine va_sld hx hb hX hbl (Nat.not_le.mpr hbl) hS (vp_in_nI hj (by omega)) hd ?_
  rw [nI_clamp (by omega)]
  exact kk H locs la hP hD hS h
/-- script[i + k] -/
theorem l_arg (X : NX l D cA R_law code 4 room_1 (lP b L xs rS) G) {j k : Nat} (q0 q3 : Nat) (h0 : ls[q0]? = some (0, .ref b)) (h3 : ls[q3]? = some (3, .int (nI j))) (hj : j + k < L) (hL : L ≤ 3584) {n : Int} (hv : Int32.ofInt n = nI k) (d0 : decode code pc = .ok (.aload_n 0, 1)) (d1 : decode code (pc + 1) = .ok (.iload_n 3, 1)) (d2 : decode code (pc + 1 + 1) = .ok (.iconst n, 1)) (d3 : decode code (pc + 1 + 1 + 1) = .ok (.iadd, 1)) (d4 : decode code (pc + 1 + 1 + 1 + 1) = .ok (.iaload, 1)) (kk : G ws kc ns ls (pc + 1 + 1 + 1 + 1 + 1) (.int (xs (j + k)) :: st)) : G ws kc ns ls pc st := by
  refine n_aload_n X d0 rfl q0 h0 ?_
  refine n_iload_n X d1 rfl q3 h3 ?_
  refine n_iconst X (nI k) d2 hv ?_
  refine n_iadd X d3 ?_
  exact l_ld X (j + k) (nI_add j k) hj hL d4 kk
theorem l_arg6 (X : NX l D cA R_law code 4 room_1 (lP b L xs rS) G) {j k : Nat} (q0 q3 : Nat) (h0 : ls[q0]? = some (0, .ref b)) (h3 : ls[q3]? = some (3, .int (nI j))) (hj : j + k < L) (hL : L ≤ 3584) {n : Int} (hv : (Int8.ofInt n).toInt32 = nI k) (d0 : decode code pc = .ok (.aload_n 0, 1)) (d1 : decode code (pc + 1) = .ok (.iload_n 3, 1)) (d2 : decode code (pc + 1 + 1) = .ok (.bipush n, 2)) (d3 : decode code (pc + 1 + 1 + 2) = .ok (.iadd, 1)) (d4 : decode code (pc + 1 + 1 + 2 + 1) = .ok (.iaload, 1)) (kk : G ws kc ns ls (pc + 1 + 1 + 2 + 1 + 1) (.int (xs (j + k)) :: st)) : G ws kc ns ls pc st := by
  refine n_aload_n X d0 rfl q0 h0 ?_
  refine n_iload_n X d1 rfl q3 h3 ?_
  refine n_bipush X (nI k) d2 hv ?_
  refine n_iadd X d3 ?_
  exact l_ld X (j + k) (nI_add j k) hj hL d4 kk
theorem l_end (X : NX l D cA R_law code 4 room_1 (lP b L xs rS) G) (h1 : kc ≤ 600000) (h2 : ns ≤ 7302250) (hd : decode code pc = .ok (.ireturn, 1)) : G ws kc ns ls pc [.int 1] := by
  obtain ⟨p, e, s, m, args, below, meth, c, A, Q, ⟨hx, hb, hml, hown, hts⟩, hK, hZ0, hA, ⟨⟨rfl, rfl, rfl⟩, -, ⟨hr, hlk⟩, -⟩, rfl⟩ := X
  intro H locs la hP hD hS h
  refine va_forget hS.2.2 ?_
  refine W.widen h1 h2 ?_
  exact lw_ret hx hb hr hlk hd
/-- a call of the class's object -/
theorem l_callC (X : NX l D cA R_law code 4 room_1 (lP b L xs rS) G) {y : MethodName} {bytes : ByteArray} {nLY n index : Nat} {retY : Option FieldType} {rmY : Room} {As stk st' : List Value} {r r' : Nat → Nat} {v u v1 : gV} {resY : Option Value} (hr : ∀ i, 50 ≤ i → r i = rS i)
    (hcal : gCal y bytes nLY retY n) (hvir : gVir y) (hlnk : gLnk R_law index y) (hrm : gRm room_1 rmY nLY) (hM : Ct l D (tysC cA) (shC cA r) 50 r (ZC r) y bytes nLY retY rmY (.ref (r 0) :: As) v resY v1) (hc : y.cls = RX5) (hn : As.length = n) (hstk : As.reverse ++ .ref (r 0) :: st = stk) (hroom : (st.map fun v => v.category).sum ≤ 8) (hres : resY.toList ++ st = st') (h1 : kc ≤ room_1.cells) (h2 : ns ≤ room_1.slots) (hd : decode code pc = .ok (.invokevirtual index, 3))
    (kk : G (cw (shM cA r') 19 r' u ++ cw (shC cA r) 50 r v1) kc ns ls (pc + 3) st') : G (cw (shC cA r) 50 r v ++ cw (shM cA r') 19 r' u) kc ns ls pc stk :=
  n_callV X (b := r 0) (q0 := 0) (ci := 5) (T := TX5) (nC := 12) (fs := fsC5 r (v 0)) (wr := cw (shM cA r') 19 r' u) (List.range 50) ((List.range 19).map (fun i => 50 + i)) [0, 1, 2] hcal hvir hlnk hrm hM rfl ZC_ok (fun p e s m args below meth c A Q h _ => h.2.2.2 r hr) (pick_l cw_len) (pick_r cw_len cw_len) (by decide) (by decide) (by decide) (by rw [List.getElem?_append_left (by rw [cw_len]; decide), cw_get (by decide)]; rfl) (by rw [hc]; rfl) hn hstk hroom hres h1 h2 hd kk
/-- a call of the reference -/
theorem l_callM (X : NX l D cA R_law code 4 room_1 (lP b L xs rS) G) {y : MethodName} {bytes : ByteArray} {nLY n index : Nat} {retY : Option FieldType} {rmY : Room} {As stk st' : List Value} {r r' : Nat → Nat} {v u u1 : gV} {resY : Option Value}
    (hcal : gCal y bytes nLY retY n) (hvir : gVir y) (hlnk : gLnk R_law index y) (hrm : gRm room_1 rmY nLY) (hM : Ct l D (tysM cA) (shM cA r') 19 r' (ZM r') y bytes nLY retY rmY (.ref (r' 0) :: As) u resY u1) (hc : y.cls = RX6) (hn : As.length = n) (hstk : As.reverse ++ .ref (r' 0) :: st = stk) (hroom : (st.map fun v => v.category).sum ≤ 8) (hres : resY.toList ++ st = st') (h1 : kc ≤ room_1.cells) (h2 : ns ≤ room_1.slots) (hd : decode code pc = .ok (.invokevirtual index, 3))
    (kk : G (cw (shC cA r) 50 r v ++ cw (shM cA r') 19 r' u1) kc ns ls (pc + 3) st') : G (cw (shM cA r') 19 r' u ++ cw (shC cA r) 50 r v) kc ns ls pc stk :=
  n_callV X (b := r' 0) (q0 := 0) (ci := 6) (T := TX6) (nC := 37) (fs := fsM6 r' (u 0)) (wr := cw (shC cA r) 50 r v) (List.range 19) ((List.range 50).map (fun i => 19 + i)) [0] hcal hvir hlnk hrm hM rfl ZM_ok (fun p e s m args below meth c A Q _ h => h.1) (pick_l cw_len) (pick_r cw_len cw_len) (by decide) (by decide) (by decide) (by rw [List.getElem?_append_left (by rw [cw_len]; decide), cw_get (by decide)]; rfl) (by rw [hc]; rfl) hn hstk hroom hres h1 h2 hd kk
end LXR
