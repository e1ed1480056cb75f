/-! a text alone: its object, its codes, its ends -/
def fsS (r : Nat → Nat) (f : Nat → Int32) : List Value := [.ref (r 1), .ref (r 2), .ref (r 3), .int (f 3)]
def shS (cA : Nat → ClassId) (r : Nat → Nat) : gSh := fun i f => match i with
  | 0 => .inr (4, fsS r f)
  | 1 => .inl (cA 0, 160, .inl f)
  | 2 => .inl (cA 0, 3, .inl f)
  | _ => .inr (0, [])
theorem shS_0 {cA : Nat → ClassId} {r : Nat → Nat} (f : Nat → Int32) : shS cA r 0 f = .inr (4, fsS r f) := rfl
theorem shS_1 {cA : Nat → ClassId} {r : Nat → Nat} (f : Nat → Int32) : shS cA r 1 f = .inl (cA 0, 160, .inl f) := rfl
theorem shS_2 {cA : Nat → ClassId} {r : Nat → Nat} (f : Nat → Int32) : shS cA r 2 f = .inl (cA 0, 3, .inl f) := rfl
theorem hNS_0 : 0 < 3 := by decide
theorem hNS_1 : 1 < 3 := by decide
theorem hNS_2 : 2 < 3 := by decide
abbrev XS (l : Launch) (D : va_G) (cA : Nat → ClassId) (r : Nat → Nat) (own : String) (cc : ByteArray) (nL : Nat) (ret : Option FieldType) (rm : Room) (res : Option Value) (v' : gV) (G : gG) : Prop := CX l D (tysC cA) (shS cA r) 3 r (ZM r) own cc nL ret rm res v' G
def fS4_put (v : gV) (x1 : Int32) : Option (Unit × gV) := (if (v 0 3) < 0 then some ((), v) else (if 160 ≤ (v 0 3) then some ((), v) else (if gin (v 0 3) 160 = true then some ((), (up1 (up1 v 1 (v 0 3).toNatClampNeg x1) 0 3 (((up1 v 1 (v 0 3).toNatClampNeg x1) 0 3) + 1))) else none)))
def fS4_endPart (v : gV) (x1 : Int32) : Option (Unit × gV) := (if x1 < 0 then some ((), v) else (if 3 ≤ x1 then some ((), v) else (if gin x1 3 = true then some ((), (up1 v 2 x1.toNatClampNeg (v 0 3))) else none)))
def fS4_becomeConstant (v : gV) (x1 : Int32) (x2 : Int32) (x3 : Int32) : Option (Unit × gV) := (gB (fS4_put (up1 v 0 3 0) x1) (fun y1 v2 => (gB (fS4_endPart v2 0) (fun y4 v5 => (gB (fS4_put v5 x2) (fun y7 v8 => (gB (fS4_endPart v8 1) (fun y10 v11 => (gB (fS4_put v11 x3) (fun y13 v14 => (gB (fS4_endPart v14 2) (fun y16 v17 => some ((), v17)))))))))))))

set_option maxHeartbeats 4000000 in
set_option maxRecDepth 100000 in
theorem bS4_put_0 {l : Launch} {D : va_G} {cA : Nat → ClassId} {r : Nat → Nat} {G : gG} {xr : Unit} {v' : gV} (X : XS l D cA r RX4 cX4_put 2 none rmX4_put none v' G) (v : gV) (x1 : Int32) (h : fS4_put v x1 = some (xr, v')) : G v [(0, .ref (r 0)), (1, .int x1)] 0 [] := by
  unfold fS4_put at h
  refine g_aload_n X dX4_put_0 rfl 0 rfl ?_
  refine g_get X fl4_21 hNS_0 (shS_0 _) rfl dX4_put_1 ?_
  refine g_if_lt X 39 dX4_put_4 (by decide) (fun c => ?_) (fun c => ?_)
  · replace h := gTr c h
    exact g_vretR X h dX4_put_39
  · replace h := gF c h
    refine g_aload_n X dX4_put_7 rfl 0 rfl ?_
    refine g_get X fl4_21 hNS_0 (shS_0 _) rfl dX4_put_8 ?_
    refine g_aload_n X dX4_put_11 rfl 0 rfl ?_
    refine g_get X fl4_9 hNS_0 (shS_0 _) rfl dX4_put_12 ?_
    refine g_alen X (t0 := 0) 160 hNS_1 (shS_1 _) rfl rfl dX4_put_15 ?_
    refine g_icmp_ge X 39 dX4_put_16 (by decide) (fun c => ?_) (fun c => ?_)
    · replace h := gTr c h
      exact g_vretR X h dX4_put_39
    · replace h := gF c h
      refine g_aload_n X dX4_put_19 rfl 0 rfl ?_
      refine g_get X fl4_9 hNS_0 (shS_0 _) rfl dX4_put_20 ?_
      refine g_aload_n X dX4_put_23 rfl 0 rfl ?_
      refine g_get X fl4_21 hNS_0 (shS_0 _) rfl dX4_put_24 ?_
      refine g_iload_n X dX4_put_27 rfl 1 rfl ?_
      obtain ⟨c, h⟩ := gGd h
      refine g_iast X hNS_1 shS_1 rfl (gin_in c) dX4_put_28 ?_
      refine g_aload_n X dX4_put_29 rfl 0 rfl ?_
      refine g_dup X dX4_put_30 rfl ?_
      refine g_get X fl4_21 hNS_0 (shS_0 _) rfl dX4_put_31 ?_
      refine g_iconst X 1 dX4_put_34 (by decide) ?_
      refine g_iadd X dX4_put_35 ?_
      refine g_put X (fsS r) fp4_21 hNS_0 shS_0 (fun _ => rfl) (Nat.le_of_ble_eq_true rfl) dX4_put_36 ?_
      exact g_vretR X h dX4_put_39

theorem mS4_put {l : Launch} {D : va_G} {cA : Nat → ClassId} {r : Nat → Nat} {v : gV} {x1 : Int32} {xr : Unit} {v' : gV} (h : fS4_put v x1 = some (xr, v')) : Ct l D (tysC cA) (shS cA r) 3 r (ZM r) yX4_put cX4_put 2 none rmX4_put [.ref (r 0), .int x1] v none v' := ct_of plX4 ZM_ok (Nat.le_of_ble_eq_true rfl) rfl (fun _ X => bS4_put_0 X v x1 h)


set_option maxHeartbeats 4000000 in
set_option maxRecDepth 100000 in
theorem bS4_endPart_0 {l : Launch} {D : va_G} {cA : Nat → ClassId} {r : Nat → Nat} {G : gG} {xr : Unit} {v' : gV} (X : XS l D cA r RX4 cX4_endPart 2 none rmX4_endPart none v' G) (v : gV) (x1 : Int32) (h : fS4_endPart v x1 = some (xr, v')) : G v [(0, .ref (r 0)), (1, .int x1)] 0 [] := by
  unfold fS4_endPart at h
  refine g_iload_n X dX4_endPart_0 rfl 1 rfl ?_
  refine g_if_lt X 19 dX4_endPart_1 (by decide) (fun c => ?_) (fun c => ?_)
  · replace h := gTr c h
    exact g_vretR X h dX4_endPart_19
  · replace h := gF c h
    refine g_iload_n X dX4_endPart_4 rfl 1 rfl ?_
    refine g_iconst X 3 dX4_endPart_5 (by decide) ?_
    refine g_icmp_ge X 19 dX4_endPart_6 (by decide) (fun c => ?_) (fun c => ?_)
    · replace h := gTr c h
      exact g_vretR X h dX4_endPart_19
    · replace h := gF c h
      refine g_aload_n X dX4_endPart_9 rfl 0 rfl ?_
      refine g_get X fl4_15 hNS_0 (shS_0 _) rfl dX4_endPart_10 ?_
      refine g_iload_n X dX4_endPart_13 rfl 1 rfl ?_
      refine g_aload_n X dX4_endPart_14 rfl 0 rfl ?_
      refine g_get X fl4_21 hNS_0 (shS_0 _) rfl dX4_endPart_15 ?_
      obtain ⟨c, h⟩ := gGd h
      refine g_iast X hNS_2 shS_2 rfl (gin_in c) dX4_endPart_18 ?_
      exact g_vretR X h dX4_endPart_19

theorem mS4_endPart {l : Launch} {D : va_G} {cA : Nat → ClassId} {r : Nat → Nat} {v : gV} {x1 : Int32} {xr : Unit} {v' : gV} (h : fS4_endPart v x1 = some (xr, v')) : Ct l D (tysC cA) (shS cA r) 3 r (ZM r) yX4_endPart cX4_endPart 2 none rmX4_endPart [.ref (r 0), .int x1] v none v' := ct_of plX4 ZM_ok (Nat.le_of_ble_eq_true rfl) rfl (fun _ X => bS4_endPart_0 X v x1 h)


set_option maxHeartbeats 4000000 in
set_option maxRecDepth 100000 in
theorem bS4_becomeConstant_0 {l : Launch} {D : va_G} {cA : Nat → ClassId} {r : Nat → Nat} {G : gG} {xr : Unit} {v' : gV} (X : XS l D cA r RX4 cX4_becomeConstant 4 none rmX4_becomeConstant none v' G) (v : gV) (x1 : Int32) (x2 : Int32) (x3 : Int32) (h : fS4_becomeConstant v x1 x2 x3 = some (xr, v')) : G v [(0, .ref (r 0)), (1, .int x1), (2, .int x2), (3, .int x3)] 0 [] := by
  unfold fS4_becomeConstant at h
  refine g_aload_n X dX4_becomeConstant_0 rfl 0 rfl ?_
  refine g_iconst X 0 dX4_becomeConstant_1 (by decide) ?_
  refine g_put X (fsS r) fp4_21 hNS_0 shS_0 (fun _ => rfl) (Nat.le_of_ble_eq_true rfl) dX4_becomeConstant_2 ?_
  refine g_aload_n X dX4_becomeConstant_5 rfl 0 rfl ?_
  refine g_iload_n X dX4_becomeConstant_6 rfl 1 rfl ?_
  obtain ⟨y1, v2, hc3, h⟩ := gB_inv h
  refine g_callV X (st := []) (st' := []) kcX4_put kvX4_put kl4_25 (⟨rfl, rfl, by decide, by decide⟩) (mS4_put hc3) hNS_0 (shS_0 _) rfl rfl rfl (Nat.le_of_ble_eq_true rfl) rfl dX4_becomeConstant_7 ?_
  refine g_aload_n X dX4_becomeConstant_10 rfl 0 rfl ?_
  refine g_iconst X 0 dX4_becomeConstant_11 (by decide) ?_
  obtain ⟨y4, v5, hc6, h⟩ := gB_inv h
  refine g_callV X (st := []) (st' := []) kcX4_endPart kvX4_endPart kl4_29 (⟨rfl, rfl, by decide, by decide⟩) (mS4_endPart hc6) hNS_0 (shS_0 _) rfl rfl rfl (Nat.le_of_ble_eq_true rfl) rfl dX4_becomeConstant_12 ?_
  refine g_aload_n X dX4_becomeConstant_15 rfl 0 rfl ?_
  refine g_iload_n X dX4_becomeConstant_16 rfl 2 rfl ?_
  obtain ⟨y7, v8, hc9, h⟩ := gB_inv h
  refine g_callV X (st := []) (st' := []) kcX4_put kvX4_put kl4_25 (⟨rfl, rfl, by decide, by decide⟩) (mS4_put hc9) hNS_0 (shS_0 _) rfl rfl rfl (Nat.le_of_ble_eq_true rfl) rfl dX4_becomeConstant_17 ?_
  refine g_aload_n X dX4_becomeConstant_20 rfl 0 rfl ?_
  refine g_iconst X 1 dX4_becomeConstant_21 (by decide) ?_
  obtain ⟨y10, v11, hc12, h⟩ := gB_inv h
  refine g_callV X (st := []) (st' := []) kcX4_endPart kvX4_endPart kl4_29 (⟨rfl, rfl, by decide, by decide⟩) (mS4_endPart hc12) hNS_0 (shS_0 _) rfl rfl rfl (Nat.le_of_ble_eq_true rfl) rfl dX4_becomeConstant_22 ?_
  refine g_aload_n X dX4_becomeConstant_25 rfl 0 rfl ?_
  refine g_iload_n X dX4_becomeConstant_26 rfl 3 rfl ?_
  obtain ⟨y13, v14, hc15, h⟩ := gB_inv h
  refine g_callV X (st := []) (st' := []) kcX4_put kvX4_put kl4_25 (⟨rfl, rfl, by decide, by decide⟩) (mS4_put hc15) hNS_0 (shS_0 _) rfl rfl rfl (Nat.le_of_ble_eq_true rfl) rfl dX4_becomeConstant_27 ?_
  refine g_aload_n X dX4_becomeConstant_30 rfl 0 rfl ?_
  refine g_iconst X 2 dX4_becomeConstant_31 (by decide) ?_
  obtain ⟨y16, v17, hc18, h⟩ := gB_inv h
  refine g_callV X (st := []) (st' := []) kcX4_endPart kvX4_endPart kl4_29 (⟨rfl, rfl, by decide, by decide⟩) (mS4_endPart hc18) hNS_0 (shS_0 _) rfl rfl rfl (Nat.le_of_ble_eq_true rfl) rfl dX4_becomeConstant_32 ?_
  exact g_vretR X h dX4_becomeConstant_35

theorem mS4_becomeConstant {l : Launch} {D : va_G} {cA : Nat → ClassId} {r : Nat → Nat} {v : gV} {x1 : Int32} {x2 : Int32} {x3 : Int32} {xr : Unit} {v' : gV} (h : fS4_becomeConstant v x1 x2 x3 = some (xr, v')) : Ct l D (tysC cA) (shS cA r) 3 r (ZM r) yX4_becomeConstant cX4_becomeConstant 4 none rmX4_becomeConstant [.ref (r 0), .int x1, .int x2, .int x3] v none v' := ct_of plX4 ZM_ok (Nat.le_of_ble_eq_true rfl) rfl (fun _ X => bS4_becomeConstant_0 X v x1 x2 x3 h)

theorem sPut {v : gV} {n : Nat} {x : Int32} (h : v 0 3 = nI n) (hn : n < 160) : fS4_put v x = some ((), up1 (up1 v 1 n x) 0 3 (nI (n + 1))) := by
  unfold fS4_put
  rw [h, if_neg (nI_pos (by omega)), if_neg (nI_nleL (x := 160) (a := 160) rfl rfl hn (by decide)), if_pos (gin_nI hn (by decide)), nI_clamp (by omega), up1_ne (show 0 ≠ 1 by decide), h, nI_1]
theorem sEnd {v : gV} {k : Nat} {x : Int32} (hx : x = nI k) (hk : k < 3) : fS4_endPart v x = some ((), up1 v 2 k (v 0 3)) := by
  unfold fS4_endPart
  rw [hx, if_neg (nI_pos (by omega)), if_neg (nI_nleL (x := 3) (a := 3) rfl rfl hk (by decide)), if_pos (gin_nI hk (by decide)), nI_clamp (by omega)]
def kC : Nat → Int32 := upd (upd (upd (fun _ => 0) 0 1) 1 5) 2 10
def kE : Nat → Int32 := upd (upd (upd (fun _ => 0) 0 1) 1 2) 2 3
theorem fS4_kk {cA : Nat → ClassId} {r : Nat → Nat} : ∃ v', fS4_becomeConstant (fun _ _ => 0) 1 5 10 = some ((), v') ∧ cw (shS cA r) 3 r v' = [(r 0, .inr (4, [.ref (r 1), .ref (r 2), .ref (r 3), .int 3])), (r 1, .inl (cA 0, 160, .inl kC)), (r 2, .inl (cA 0, 3, .inl kE))] := by
  generalize hv : (fun _ _ => 0 : gV) = v
  have h1 : v 1 = fun _ => 0 := by rw [← hv]
  have h2 : v 2 = fun _ => 0 := by rw [← hv]
  unfold fS4_becomeConstant
  have a0 : (up1 v 0 3 0) 0 3 = nI 0 := by rw [up1_eq']; rfl
  have b1 : (up1 v 0 3 0) 1 = fun _ => 0 := by rw [up1_ne (by decide)]; exact h1
  have b2 : (up1 v 0 3 0) 2 = fun _ => 0 := by rw [up1_ne (by decide)]; exact h2
  generalize up1 v 0 3 0 = w at a0 b1 b2
  rw [sPut a0 (by decide), gB_some]
  have a1 : (up1 (up1 w 1 0 1) 0 3 (nI (0 + 1))) 0 3 = nI 1 := by rw [up1_eq']
  have c1 : (up1 (up1 w 1 0 1) 0 3 (nI (0 + 1))) 1 = upd (fun _ => 0) 0 1 := by rw [up1_ne (by decide), up1_eq, b1]
  have c2 : (up1 (up1 w 1 0 1) 0 3 (nI (0 + 1))) 2 = fun _ => 0 := by rw [up1_ne (by decide), up1_ne (by decide)]; exact b2
  generalize up1 (up1 w 1 0 1) 0 3 (nI (0 + 1)) = w1 at a1 c1 c2
  rw [sEnd (x := 0) (k := 0) rfl (by decide), gB_some, a1]
  have a2 : (up1 w1 2 0 (nI 1)) 0 3 = nI 1 := by rw [up1_ne (by decide)]; exact a1
  have d1 : (up1 w1 2 0 (nI 1)) 1 = upd (fun _ => 0) 0 1 := by rw [up1_ne (by decide)]; exact c1
  have d2 : (up1 w1 2 0 (nI 1)) 2 = upd (fun _ => 0) 0 1 := by rw [up1_eq, c2]; rfl
  generalize up1 w1 2 0 (nI 1) = w2 at a2 d1 d2
  rw [sPut a2 (by decide), gB_some]
  have a3 : (up1 (up1 w2 1 1 5) 0 3 (nI (1 + 1))) 0 3 = nI 2 := by rw [up1_eq']
  have e1 : (up1 (up1 w2 1 1 5) 0 3 (nI (1 + 1))) 1 = upd (upd (fun _ => 0) 0 1) 1 5 := by rw [up1_ne (by decide), up1_eq, d1]
  have e2 : (up1 (up1 w2 1 1 5) 0 3 (nI (1 + 1))) 2 = upd (fun _ => 0) 0 1 := by rw [up1_ne (by decide), up1_ne (by decide)]; exact d2
  generalize up1 (up1 w2 1 1 5) 0 3 (nI (1 + 1)) = w3 at a3 e1 e2
  rw [sEnd (x := 1) (k := 1) rfl (by decide), gB_some, a3]
  have a4 : (up1 w3 2 1 (nI 2)) 0 3 = nI 2 := by rw [up1_ne (by decide)]; exact a3
  have f1 : (up1 w3 2 1 (nI 2)) 1 = upd (upd (fun _ => 0) 0 1) 1 5 := by rw [up1_ne (by decide)]; exact e1
  have f2 : (up1 w3 2 1 (nI 2)) 2 = upd (upd (fun _ => 0) 0 1) 1 2 := by rw [up1_eq, e2]; rfl
  generalize up1 w3 2 1 (nI 2) = w4 at a4 f1 f2
  rw [sPut a4 (by decide), gB_some]
  have a5 : (up1 (up1 w4 1 2 10) 0 3 (nI (2 + 1))) 0 3 = nI 3 := by rw [up1_eq']
  have g1 : (up1 (up1 w4 1 2 10) 0 3 (nI (2 + 1))) 1 = kC := by rw [up1_ne (by decide), up1_eq, f1]; rfl
  have g2 : (up1 (up1 w4 1 2 10) 0 3 (nI (2 + 1))) 2 = upd (upd (fun _ => 0) 0 1) 1 2 := by rw [up1_ne (by decide), up1_ne (by decide)]; exact f2
  generalize up1 (up1 w4 1 2 10) 0 3 (nI (2 + 1)) = w5 at a5 g1 g2
  rw [sEnd (x := 2) (k := 2) rfl (by decide), gB_some, a5]
  have a6 : (up1 w5 2 2 (nI 3)) 0 3 = 3 := by rw [up1_ne (by decide)]; exact a5
  have k1 : (up1 w5 2 2 (nI 3)) 1 = kC := by rw [up1_ne (by decide)]; exact g1
  have k2 : (up1 w5 2 2 (nI 3)) 2 = kE := by rw [up1_eq, g2]; rfl
  refine ⟨_, rfl, ?_⟩
  show ([(r 0, .inr (4, [.ref (r 1), .ref (r 2), .ref (r 3), .int ((up1 w5 2 2 (nI 3)) 0 3)])), (r 1, .inl (cA 0, 160, .inl ((up1 w5 2 2 (nI 3)) 1))), (r 2, .inl (cA 0, 3, .inl ((up1 w5 2 2 (nI 3)) 2)))] : va_W) = _
  rw [a6, k1, k2]
