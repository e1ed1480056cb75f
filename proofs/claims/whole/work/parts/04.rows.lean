section GX
variable {l : Launch} {D : va_G} {tys : gT} {sh : gSh} {N : Nat} {r : Nat → Nat} {Z : gZ} {own : String} {cc : ByteArray} {nL : Nat} {ret : Option FieldType} {rm : Room} {res : Option Value} {v' : gV} {G : gG}
variable {v : gV} {ls : List (Nat × Value)} {pc : Nat} {st : List Value}
theorem g_iadd (X : CX l D tys sh N r Z own cc nL ret rm res v' G) {x y : Int32} (hd : decode cc pc = .ok (.iadd, 1)) (k : G v ls (pc + 1) (.int (x + y) :: st)) : G v ls pc (.int y :: .int x :: st) := by
  obtain ⟨p, e, s, m, args, below, meth, c, A, ⟨hx, hb, hml, hown, hts⟩, hr, hlk, hK, hZ0, hZ, hA, rfl⟩ := X
  intro H locs la hP hD hS h
  exact lv_iadd hx hb hd (k H locs la hP hD hS h)
theorem g_isub (X : CX l D tys sh N r Z own cc nL ret rm res v' G) {x y : Int32} (hd : decode cc pc = .ok (.isub, 1)) (k : G v ls (pc + 1) (.int (x - y) :: st)) : G v ls pc (.int y :: .int x :: st) := by
  obtain ⟨p, e, s, m, args, below, meth, c, A, ⟨hx, hb, hml, hown, hts⟩, hr, hlk, hK, hZ0, hZ, hA, rfl⟩ := X
  intro H locs la hP hD hS h
  exact lv_isub hx hb hd (k H locs la hP hD hS h)
theorem g_imul (X : CX l D tys sh N r Z own cc nL ret rm res v' G) {x y : Int32} (hd : decode cc pc = .ok (.imul, 1)) (k : G v ls (pc + 1) (.int (x * y) :: st)) : G v ls pc (.int y :: .int x :: st) := by
  obtain ⟨p, e, s, m, args, below, meth, c, A, ⟨hx, hb, hml, hown, hts⟩, hr, hlk, hK, hZ0, hZ, hA, rfl⟩ := X
  intro H locs la hP hD hS h
  exact lv_imul hx hb hd (k H locs la hP hD hS h)
theorem g_iand (X : CX l D tys sh N r Z own cc nL ret rm res v' G) {x y : Int32} (hd : decode cc pc = .ok (.iand, 1)) (k : G v ls (pc + 1) (.int (x &&& y) :: st)) : G v ls pc (.int y :: .int x :: st) := by
  obtain ⟨p, e, s, m, args, below, meth, c, A, ⟨hx, hb, hml, hown, hts⟩, hr, hlk, hK, hZ0, hZ, hA, rfl⟩ := X
  intro H locs la hP hD hS h
  exact lv_iand hx hb hd (k H locs la hP hD hS h)
theorem g_ior (X : CX l D tys sh N r Z own cc nL ret rm res v' G) {x y : Int32} (hd : decode cc pc = .ok (.ior, 1)) (k : G v ls (pc + 1) (.int (x ||| y) :: st)) : G v ls pc (.int y :: .int x :: st) := by
  obtain ⟨p, e, s, m, args, below, meth, c, A, ⟨hx, hb, hml, hown, hts⟩, hr, hlk, hK, hZ0, hZ, hA, rfl⟩ := X
  intro H locs la hP hD hS h
  exact lv_ior hx hb hd (k H locs la hP hD hS h)
theorem g_ishl (X : CX l D tys sh N r Z own cc nL ret rm res v' G) {x y : Int32} (hd : decode cc pc = .ok (.ishl, 1)) (k : G v ls (pc + 1) (.int (x <<< (y &&& 31)) :: st)) : G v ls pc (.int y :: .int x :: st) := by
  obtain ⟨p, e, s, m, args, below, meth, c, A, ⟨hx, hb, hml, hown, hts⟩, hr, hlk, hK, hZ0, hZ, hA, rfl⟩ := X
  intro H locs la hP hD hS h
  exact lv_ishl hx hb hd (k H locs la hP hD hS h)
theorem g_ishr (X : CX l D tys sh N r Z own cc nL ret rm res v' G) {x y : Int32} (hd : decode cc pc = .ok (.ishr, 1)) (k : G v ls (pc + 1) (.int (x >>> (y &&& 31)) :: st)) : G v ls pc (.int y :: .int x :: st) := by
  obtain ⟨p, e, s, m, args, below, meth, c, A, ⟨hx, hb, hml, hown, hts⟩, hr, hlk, hK, hZ0, hZ, hA, rfl⟩ := X
  intro H locs la hP hD hS h
  exact lv_ishr hx hb hd (k H locs la hP hD hS h)
theorem g_ladd (X : CX l D tys sh N r Z own cc nL ret rm res v' G) {x y : Int64} (hd : decode cc pc = .ok (.ladd, 1)) (k : G v ls (pc + 1) (.long (x + y) :: st)) : G v ls pc (.long y :: .long x :: st) := by
  obtain ⟨p, e, s, m, args, below, meth, c, A, ⟨hx, hb, hml, hown, hts⟩, hr, hlk, hK, hZ0, hZ, hA, rfl⟩ := X
  intro H locs la hP hD hS h
  exact lv_ladd hx hb hd (k H locs la hP hD hS h)
theorem g_lmul (X : CX l D tys sh N r Z own cc nL ret rm res v' G) {x y : Int64} (hd : decode cc pc = .ok (.lmul, 1)) (k : G v ls (pc + 1) (.long (x * y) :: st)) : G v ls pc (.long y :: .long x :: st) := by
  obtain ⟨p, e, s, m, args, below, meth, c, A, ⟨hx, hb, hml, hown, hts⟩, hr, hlk, hK, hZ0, hZ, hA, rfl⟩ := X
  intro H locs la hP hD hS h
  exact lv_lmul hx hb hd (k H locs la hP hD hS h)
theorem g_lor (X : CX l D tys sh N r Z own cc nL ret rm res v' G) {x y : Int64} (hd : decode cc pc = .ok (.lor, 1)) (k : G v ls (pc + 1) (.long (x ||| y) :: st)) : G v ls pc (.long y :: .long x :: st) := by
  obtain ⟨p, e, s, m, args, below, meth, c, A, ⟨hx, hb, hml, hown, hts⟩, hr, hlk, hK, hZ0, hZ, hA, rfl⟩ := X
  intro H locs la hP hD hS h
  exact lv_lor hx hb hd (k H locs la hP hD hS h)
theorem g_idiv (X : CX l D tys sh N r Z own cc nL ret rm res v' G) {x y : Int32} (hd : decode cc pc = .ok (.idiv, 1)) (hne : ¬ y = 0) (k : G v ls (pc + 1) (.int (x / y) :: st)) : G v ls pc (.int y :: .int x :: st) := by
  obtain ⟨p, e, s, m, args, below, meth, c, A, ⟨hx, hb, hml, hown, hts⟩, hr, hlk, hK, hZ0, hZ, hA, rfl⟩ := X
  intro H locs la hP hD hS h
  exact lv_idiv hx hb hd hne (k H locs la hP hD hS h)
theorem g_irem (X : CX l D tys sh N r Z own cc nL ret rm res v' G) {x y : Int32} (hd : decode cc pc = .ok (.irem, 1)) (hne : ¬ y = 0) (k : G v ls (pc + 1) (.int (x - x / y * y) :: st)) : G v ls pc (.int y :: .int x :: st) := by
  obtain ⟨p, e, s, m, args, below, meth, c, A, ⟨hx, hb, hml, hown, hts⟩, hr, hlk, hK, hZ0, hZ, hA, rfl⟩ := X
  intro H locs la hP hD hS h
  exact lv_irem hx hb hd hne (k H locs la hP hD hS h)
theorem g_ldiv (X : CX l D tys sh N r Z own cc nL ret rm res v' G) {x y : Int64} (hd : decode cc pc = .ok (.ldiv, 1)) (hne : ¬ y = 0) (k : G v ls (pc + 1) (.long (x / y) :: st)) : G v ls pc (.long y :: .long x :: st) := by
  obtain ⟨p, e, s, m, args, below, meth, c, A, ⟨hx, hb, hml, hown, hts⟩, hr, hlk, hK, hZ0, hZ, hA, rfl⟩ := X
  intro H locs la hP hD hS h
  exact lv_ldiv hx hb hd hne (k H locs la hP hD hS h)
theorem g_lrem (X : CX l D tys sh N r Z own cc nL ret rm res v' G) {x y : Int64} (hd : decode cc pc = .ok (.lrem, 1)) (hne : ¬ y = 0) (k : G v ls (pc + 1) (.long (x - x / y * y) :: st)) : G v ls pc (.long y :: .long x :: st) := by
  obtain ⟨p, e, s, m, args, below, meth, c, A, ⟨hx, hb, hml, hown, hts⟩, hr, hlk, hK, hZ0, hZ, hA, rfl⟩ := X
  intro H locs la hP hD hS h
  exact lv_lrem hx hb hd hne (k H locs la hP hD hS h)
theorem g_ineg (X : CX l D tys sh N r Z own cc nL ret rm res v' G) {x : Int32} (hd : decode cc pc = .ok (.ineg, 1)) (k : G v ls (pc + 1) (.int (-x) :: st)) : G v ls pc (.int x :: st) := by
  obtain ⟨p, e, s, m, args, below, meth, c, A, ⟨hx, hb, hml, hown, hts⟩, hr, hlk, hK, hZ0, hZ, hA, rfl⟩ := X
  intro H locs la hP hD hS h
  exact lv_ineg hx hb hd (k H locs la hP hD hS h)
theorem g_i2l (X : CX l D tys sh N r Z own cc nL ret rm res v' G) {x : Int32} (hd : decode cc pc = .ok (.i2l, 1)) (k : G v ls (pc + 1) (.long x.toInt64 :: st)) : G v ls pc (.int x :: st) := by
  obtain ⟨p, e, s, m, args, below, meth, c, A, ⟨hx, hb, hml, hown, hts⟩, hr, hlk, hK, hZ0, hZ, hA, rfl⟩ := X
  intro H locs la hP hD hS h
  exact lv_i2l hx hb hd rfl (k H locs la hP hD hS h)
theorem g_i2b (X : CX l D tys sh N r Z own cc nL ret rm res v' G) {x : Int32} (hd : decode cc pc = .ok (.i2b, 1)) (k : G v ls (pc + 1) (.int x.toInt8.toInt32 :: st)) : G v ls pc (.int x :: st) := by
  obtain ⟨p, e, s, m, args, below, meth, c, A, ⟨hx, hb, hml, hown, hts⟩, hr, hlk, hK, hZ0, hZ, hA, rfl⟩ := X
  intro H locs la hP hD hS h
  exact lv_i2b hx hb hd rfl (k H locs la hP hD hS h)
theorem g_i2s (X : CX l D tys sh N r Z own cc nL ret rm res v' G) {x : Int32} (hd : decode cc pc = .ok (.i2s, 1)) (k : G v ls (pc + 1) (.int x.toInt16.toInt32 :: st)) : G v ls pc (.int x :: st) := by
  obtain ⟨p, e, s, m, args, below, meth, c, A, ⟨hx, hb, hml, hown, hts⟩, hr, hlk, hK, hZ0, hZ, hA, rfl⟩ := X
  intro H locs la hP hD hS h
  exact lv_i2s hx hb hd rfl (k H locs la hP hD hS h)
theorem g_lshl (X : CX l D tys sh N r Z own cc nL ret rm res v' G) {x : Int64} {y : Int32} (hd : decode cc pc = .ok (.lshl, 1)) (k : G v ls (pc + 1) (.long (x <<< (y.toInt64 &&& 63)) :: st)) : G v ls pc (.int y :: .long x :: st) := by
  obtain ⟨p, e, s, m, args, below, meth, c, A, ⟨hx, hb, hml, hown, hts⟩, hr, hlk, hK, hZ0, hZ, hA, rfl⟩ := X
  intro H locs la hP hD hS h
  exact lv_lshl hx hb hd rfl (k H locs la hP hD hS h)
theorem g_lcmp (X : CX l D tys sh N r Z own cc nL ret rm res v' G) {x y : Int64} (hd : decode cc pc = .ok (.lcmp, 1)) (k : G v ls (pc + 1) (.int (lg_cmp x y) :: st)) : G v ls pc (.long y :: .long x :: st) := by
  obtain ⟨p, e, s, m, args, below, meth, c, A, ⟨hx, hb, hml, hown, hts⟩, hr, hlk, hK, hZ0, hZ, hA, rfl⟩ := X
  intro H locs la hP hD hS h
  exact W.lcmp hx hb hd (k H locs la hP hD hS h)
theorem g_dup (X : CX l D tys sh N r Z own cc nL ret rm res v' G) {a : Value} (hd : decode cc pc = .ok (.dup, 1)) (ha : a.category = 1) (k : G v ls (pc + 1) (a :: a :: st)) : G v ls pc (a :: st) := by
  obtain ⟨p, e, s, m, args, below, meth, c, A, ⟨hx, hb, hml, hown, hts⟩, hr, hlk, hK, hZ0, hZ, hA, rfl⟩ := X
  intro H locs la hP hD hS h
  exact lv_dup hx hb hd ha (k H locs la hP hD hS h)
theorem g_pop (X : CX l D tys sh N r Z own cc nL ret rm res v' G) {a : Value} (hd : decode cc pc = .ok (.pop, 1)) (ha : a.category = 1) (k : G v ls (pc + 1) st) : G v ls pc (a :: st) := by
  obtain ⟨p, e, s, m, args, below, meth, c, A, ⟨hx, hb, hml, hown, hts⟩, hr, hlk, hK, hZ0, hZ, hA, rfl⟩ := X
  intro H locs la hP hD hS h
  exact lv_pop hx hb hd ha (k H locs la hP hD hS h)
theorem g_dup2 (X : CX l D tys sh N r Z own cc nL ret rm res v' G) {a b : Value} (hd : decode cc pc = .ok (.dup2, 1)) (ha : a.category = 1) (hb2 : b.category = 1) (k : G v ls (pc + 1) (a :: b :: a :: b :: st)) : G v ls pc (a :: b :: st) := by
  obtain ⟨p, e, s, m, args, below, meth, c, A, ⟨hx, hb, hml, hown, hts⟩, hr, hlk, hK, hZ0, hZ, hA, rfl⟩ := X
  intro H locs la hP hD hS h
  exact lv_dup2_11 hx hb hd ha hb2 (k H locs la hP hD hS h)
theorem g_goto (X : CX l D tys sh N r Z own cc nL ret rm res v' G) {off : Int} (tgt : Nat) (hd : decode cc pc = .ok (.goto off, 3)) (ht : (pc : Int) + off = (tgt : Int)) (k : G v ls tgt st) : G v ls pc (st) := by
  obtain ⟨p, e, s, m, args, below, meth, c, A, ⟨hx, hb, hml, hown, hts⟩, hr, hlk, hK, hZ0, hZ, hA, rfl⟩ := X
  intro H locs la hP hD hS h
  exact lv_goto hx hb hd ht (k H locs la hP hD hS h)
theorem g_icmp_eq (X : CX l D tys sh N r Z own cc nL ret rm res v' G) {x y : Int32} {off : Int} (tgt : Nat) (hd : decode cc pc = .ok (.if_icmp .eq off, 3)) (ht : (pc : Int) + off = (tgt : Int)) (kt : x = y → G v ls tgt st) (kf : ¬ x = y → G v ls (pc + 3) st) : G v ls pc (.int y :: .int x :: st) := by
  obtain ⟨p, e, s, m, args, below, meth, c, A, ⟨hx, hb, hml, hown, hts⟩, hr, hlk, hK, hZ0, hZ, hA, rfl⟩ := X
  intro H locs la hP hD hS h
  exact lv_icmp_eq hx hb hd ht (fun q => kt q H locs la hP hD hS h) (fun q => kf q H locs la hP hD hS h)
theorem g_if_eq (X : CX l D tys sh N r Z own cc nL ret rm res v' G) {x : Int32} {off : Int} (tgt : Nat) (hd : decode cc pc = .ok (.ifCond .eq off, 3)) (ht : (pc : Int) + off = (tgt : Int)) (kt : x = 0 → G v ls tgt st) (kf : ¬ x = 0 → G v ls (pc + 3) st) : G v ls pc (.int x :: st) := by
  obtain ⟨p, e, s, m, args, below, meth, c, A, ⟨hx, hb, hml, hown, hts⟩, hr, hlk, hK, hZ0, hZ, hA, rfl⟩ := X
  intro H locs la hP hD hS h
  exact lv_if_eq hx hb hd ht (fun q => kt q H locs la hP hD hS h) (fun q => kf q H locs la hP hD hS h)
theorem g_icmp_ne (X : CX l D tys sh N r Z own cc nL ret rm res v' G) {x y : Int32} {off : Int} (tgt : Nat) (hd : decode cc pc = .ok (.if_icmp .ne off, 3)) (ht : (pc : Int) + off = (tgt : Int)) (kt : ¬ x = y → G v ls tgt st) (kf : x = y → G v ls (pc + 3) st) : G v ls pc (.int y :: .int x :: st) := by
  obtain ⟨p, e, s, m, args, below, meth, c, A, ⟨hx, hb, hml, hown, hts⟩, hr, hlk, hK, hZ0, hZ, hA, rfl⟩ := X
  intro H locs la hP hD hS h
  exact lv_icmp_ne hx hb hd ht (fun q => kt q H locs la hP hD hS h) (fun q => kf q H locs la hP hD hS h)
theorem g_if_ne (X : CX l D tys sh N r Z own cc nL ret rm res v' G) {x : Int32} {off : Int} (tgt : Nat) (hd : decode cc pc = .ok (.ifCond .ne off, 3)) (ht : (pc : Int) + off = (tgt : Int)) (kt : ¬ x = 0 → G v ls tgt st) (kf : x = 0 → G v ls (pc + 3) st) : G v ls pc (.int x :: st) := by
  obtain ⟨p, e, s, m, args, below, meth, c, A, ⟨hx, hb, hml, hown, hts⟩, hr, hlk, hK, hZ0, hZ, hA, rfl⟩ := X
  intro H locs la hP hD hS h
  exact lv_if_ne hx hb hd ht (fun q => kt q H locs la hP hD hS h) (fun q => kf q H locs la hP hD hS h)
theorem g_icmp_lt (X : CX l D tys sh N r Z own cc nL ret rm res v' G) {x y : Int32} {off : Int} (tgt : Nat) (hd : decode cc pc = .ok (.if_icmp .lt off, 3)) (ht : (pc : Int) + off = (tgt : Int)) (kt : x < y → G v ls tgt st) (kf : ¬ x < y → G v ls (pc + 3) st) : G v ls pc (.int y :: .int x :: st) := by
  obtain ⟨p, e, s, m, args, below, meth, c, A, ⟨hx, hb, hml, hown, hts⟩, hr, hlk, hK, hZ0, hZ, hA, rfl⟩ := X
  intro H locs la hP hD hS h
  exact lv_icmp_lt hx hb hd ht (fun q => kt q H locs la hP hD hS h) (fun q => kf q H locs la hP hD hS h)
theorem g_if_lt (X : CX l D tys sh N r Z own cc nL ret rm res v' G) {x : Int32} {off : Int} (tgt : Nat) (hd : decode cc pc = .ok (.ifCond .lt off, 3)) (ht : (pc : Int) + off = (tgt : Int)) (kt : x < 0 → G v ls tgt st) (kf : ¬ x < 0 → G v ls (pc + 3) st) : G v ls pc (.int x :: st) := by
  obtain ⟨p, e, s, m, args, below, meth, c, A, ⟨hx, hb, hml, hown, hts⟩, hr, hlk, hK, hZ0, hZ, hA, rfl⟩ := X
  intro H locs la hP hD hS h
  exact lv_if_lt hx hb hd ht (fun q => kt q H locs la hP hD hS h) (fun q => kf q H locs la hP hD hS h)
theorem g_icmp_ge (X : CX l D tys sh N r Z own cc nL ret rm res v' G) {x y : Int32} {off : Int} (tgt : Nat) (hd : decode cc pc = .ok (.if_icmp .ge off, 3)) (ht : (pc : Int) + off = (tgt : Int)) (kt : y ≤ x → G v ls tgt st) (kf : ¬ y ≤ x → G v ls (pc + 3) st) : G v ls pc (.int y :: .int x :: st) := by
  obtain ⟨p, e, s, m, args, below, meth, c, A, ⟨hx, hb, hml, hown, hts⟩, hr, hlk, hK, hZ0, hZ, hA, rfl⟩ := X
  intro H locs la hP hD hS h
  exact lv_icmp_ge hx hb hd ht (fun q => kt q H locs la hP hD hS h) (fun q => kf q H locs la hP hD hS h)
theorem g_if_ge (X : CX l D tys sh N r Z own cc nL ret rm res v' G) {x : Int32} {off : Int} (tgt : Nat) (hd : decode cc pc = .ok (.ifCond .ge off, 3)) (ht : (pc : Int) + off = (tgt : Int)) (kt : 0 ≤ x → G v ls tgt st) (kf : ¬ 0 ≤ x → G v ls (pc + 3) st) : G v ls pc (.int x :: st) := by
  obtain ⟨p, e, s, m, args, below, meth, c, A, ⟨hx, hb, hml, hown, hts⟩, hr, hlk, hK, hZ0, hZ, hA, rfl⟩ := X
  intro H locs la hP hD hS h
  exact lv_if_ge hx hb hd ht (fun q => kt q H locs la hP hD hS h) (fun q => kf q H locs la hP hD hS h)
theorem g_icmp_gt (X : CX l D tys sh N r Z own cc nL ret rm res v' G) {x y : Int32} {off : Int} (tgt : Nat) (hd : decode cc pc = .ok (.if_icmp .gt off, 3)) (ht : (pc : Int) + off = (tgt : Int)) (kt : y < x → G v ls tgt st) (kf : ¬ y < x → G v ls (pc + 3) st) : G v ls pc (.int y :: .int x :: st) := by
  obtain ⟨p, e, s, m, args, below, meth, c, A, ⟨hx, hb, hml, hown, hts⟩, hr, hlk, hK, hZ0, hZ, hA, rfl⟩ := X
  intro H locs la hP hD hS h
  exact lv_icmp_gt hx hb hd ht (fun q => kt q H locs la hP hD hS h) (fun q => kf q H locs la hP hD hS h)
theorem g_if_gt (X : CX l D tys sh N r Z own cc nL ret rm res v' G) {x : Int32} {off : Int} (tgt : Nat) (hd : decode cc pc = .ok (.ifCond .gt off, 3)) (ht : (pc : Int) + off = (tgt : Int)) (kt : 0 < x → G v ls tgt st) (kf : ¬ 0 < x → G v ls (pc + 3) st) : G v ls pc (.int x :: st) := by
  obtain ⟨p, e, s, m, args, below, meth, c, A, ⟨hx, hb, hml, hown, hts⟩, hr, hlk, hK, hZ0, hZ, hA, rfl⟩ := X
  intro H locs la hP hD hS h
  exact lv_if_gt hx hb hd ht (fun q => kt q H locs la hP hD hS h) (fun q => kf q H locs la hP hD hS h)
theorem g_icmp_le (X : CX l D tys sh N r Z own cc nL ret rm res v' G) {x y : Int32} {off : Int} (tgt : Nat) (hd : decode cc pc = .ok (.if_icmp .le off, 3)) (ht : (pc : Int) + off = (tgt : Int)) (kt : x ≤ y → G v ls tgt st) (kf : ¬ x ≤ y → G v ls (pc + 3) st) : G v ls pc (.int y :: .int x :: st) := by
  obtain ⟨p, e, s, m, args, below, meth, c, A, ⟨hx, hb, hml, hown, hts⟩, hr, hlk, hK, hZ0, hZ, hA, rfl⟩ := X
  intro H locs la hP hD hS h
  exact lv_icmp_le hx hb hd ht (fun q => kt q H locs la hP hD hS h) (fun q => kf q H locs la hP hD hS h)
theorem g_if_le (X : CX l D tys sh N r Z own cc nL ret rm res v' G) {x : Int32} {off : Int} (tgt : Nat) (hd : decode cc pc = .ok (.ifCond .le off, 3)) (ht : (pc : Int) + off = (tgt : Int)) (kt : x ≤ 0 → G v ls tgt st) (kf : ¬ x ≤ 0 → G v ls (pc + 3) st) : G v ls pc (.int x :: st) := by
  obtain ⟨p, e, s, m, args, below, meth, c, A, ⟨hx, hb, hml, hown, hts⟩, hr, hlk, hK, hZ0, hZ, hA, rfl⟩ := X
  intro H locs la hP hD hS h
  exact lv_if_le hx hb hd ht (fun q => kt q H locs la hP hD hS h) (fun q => kf q H locs la hP hD hS h)
theorem g_tableIn (X : CX l D tys sh N r Z own cc nL ret rm res v' G) {dflt lo hi : Int} {offs : Array Int} {len : Nat} {x : Int32} {off : Int} (tgt : Nat) (hd : decode cc pc = .ok (.tableswitch dflt lo hi offs, len)) (h1 : ¬ x.toInt < lo) (h2 : ¬ hi < x.toInt) (ho : offs[(x.toInt - lo).toNat]? = some off) (ht : (pc : Int) + off = (tgt : Int)) (k : G v ls tgt st) : G v ls pc (.int x :: st) := by
  obtain ⟨p, e, s, m, args, below, meth, c, A, ⟨hx, hb, hml, hown, hts⟩, hr, hlk, hK, hZ0, hZ, hA, rfl⟩ := X
  intro H locs la hP hD hS h
  exact lv_tableIn hx hb hd h1 h2 ho ht (k H locs la hP hD hS h)
theorem g_tableOut (X : CX l D tys sh N r Z own cc nL ret rm res v' G) {dflt lo hi : Int} {offs : Array Int} {len : Nat} {x : Int32} (tgt : Nat) (hd : decode cc pc = .ok (.tableswitch dflt lo hi offs, len)) (h1 : x.toInt < lo ∨ hi < x.toInt) (ht : (pc : Int) + dflt = (tgt : Int)) (k : G v ls tgt st) : G v ls pc (.int x :: st) := by
  obtain ⟨p, e, s, m, args, below, meth, c, A, ⟨hx, hb, hml, hown, hts⟩, hr, hlk, hK, hZ0, hZ, hA, rfl⟩ := X
  intro H locs la hP hD hS h
  exact lv_tableOut hx hb hd h1 ht (k H locs la hP hD hS h)
theorem g_lookup (X : CX l D tys sh N r Z own cc nL ret rm res v' G) {dflt : Int} {ps : Array (Int × Int)} {len : Nat} {x : Int32} {off : Int} (tgt : Nat) (hd : decode cc pc = .ok (.lookupswitch dflt ps, len)) (hp : (ps.toList.zip (ps.toList.drop 1)).all (fun (a, next) => a.1 < next.1) = true) (ho : Op.lookupswitch.offset ps.toList dflt x.toInt = off) (ht : (pc : Int) + off = (tgt : Int)) (k : G v ls tgt st) : G v ls pc (.int x :: st) := by
  obtain ⟨p, e, s, m, args, below, meth, c, A, ⟨hx, hb, hml, hown, hts⟩, hr, hlk, hK, hZ0, hZ, hA, rfl⟩ := X
  intro H locs la hP hD hS h
  exact lv_lookup hx hb hd hp ho ht (k H locs la hP hD hS h)
theorem g_ifnullQ (X : CX l D tys sh N r Z own cc nL ret rm res v' G) {a : Option Nat} {off : Int} (tgt : Nat) (hd : decode cc pc = .ok (.ifnull off, 3)) (ht : (pc : Int) + off = (tgt : Int)) (kn : a = none → G v ls tgt st) (ks : ∀ b, a = some b → G v ls (pc + 3) st) : G v ls pc (va_rf a :: st) := by
  obtain ⟨p, e, s, m, args, below, meth, c, A, ⟨hx, hb, hml, hown, hts⟩, hr, hlk, hK, hZ0, hZ, hA, rfl⟩ := X
  intro H locs la hP hD hS h
  exact (by
    cases a with
    | none => exact lv_ifnullN hx hb hd ht (kn rfl H locs la hP hD hS h)
    | some b => exact lv_ifnull hx hb hd (ks b rfl H locs la hP hD hS h))
theorem g_ifnonnullQ (X : CX l D tys sh N r Z own cc nL ret rm res v' G) {a : Option Nat} {off : Int} (tgt : Nat) (hd : decode cc pc = .ok (.ifnonnull off, 3)) (ht : (pc : Int) + off = (tgt : Int)) (kn : a = none → G v ls (pc + 3) st) (ks : ∀ b, a = some b → G v ls tgt st) : G v ls pc (va_rf a :: st) := by
  obtain ⟨p, e, s, m, args, below, meth, c, A, ⟨hx, hb, hml, hown, hts⟩, hr, hlk, hK, hZ0, hZ, hA, rfl⟩ := X
  intro H locs la hP hD hS h
  exact (by
    cases a with
    | none => exact lv_ifnonnullN hx hb hd (kn rfl H locs la hP hD hS h)
    | some b => exact lv_ifnonnull hx hb hd ht (ks b rfl H locs la hP hD hS h))
theorem g_null (X : CX l D tys sh N r Z own cc nL ret rm res v' G) (hd : decode cc pc = .ok (.aconst_null, 1)) (k : G v ls (pc + 1) (va_rf none :: st)) : G v ls pc (st) := by
  obtain ⟨p, e, s, m, args, below, meth, c, A, ⟨hx, hb, hml, hown, hts⟩, hr, hlk, hK, hZ0, hZ, hA, rfl⟩ := X
  intro H locs la hP hD hS h
  exact lv_null hx hb hd (k H locs la hP hD hS h)
end GX
