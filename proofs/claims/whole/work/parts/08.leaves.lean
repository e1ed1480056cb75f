def rmX1_isKind : Room := { frames := 0, cells := 0, slots := 0, locals := 0 }

set_option maxHeartbeats 4000000 in
set_option maxRecDepth 100000 in
theorem bX1_isKind_0 {l : Launch} {D : va_G} {cA : Nat → ClassId} {r : Nat → Nat} {G : gG} {xr : Int32} {v' : gV} (X : XC l D cA r RX1 cX1_isKind 1 (some .boolean) rmX1_isKind (some (.int xr)) v' G) (v : gV) (x0 : Int32) (h : fX1_isKind v x0 = some (xr, v')) : G v [(0, .int x0)] 0 [] := by
  unfold fX1_isKind at h
  refine g_iload_n X dX1_isKind_0 rfl 0 rfl ?_
  refine g_if_lt X 14 dX1_isKind_1 (by decide) (fun c => ?_) (fun c => ?_)
  · replace h := gTr c h
    refine g_iconst X 0 dX1_isKind_14 (by decide) ?_
    exact g_zretR X (Or.inl rfl) h dX1_isKind_15
  · replace h := gF c h
    refine g_iload_n X dX1_isKind_4 rfl 0 rfl ?_
    refine g_bipush X 6 dX1_isKind_5 (by decide) ?_
    refine g_icmp_ge X 14 dX1_isKind_7 (by decide) (fun c => ?_) (fun c => ?_)
    · replace h := gTr c h
      refine g_iconst X 0 dX1_isKind_14 (by decide) ?_
      exact g_zretR X (Or.inl rfl) h dX1_isKind_15
    · replace h := gF c h
      refine g_iconst X 1 dX1_isKind_10 (by decide) ?_
      refine g_goto X 15 dX1_isKind_11 (by decide) ?_
      exact g_zretR X (Or.inr rfl) h dX1_isKind_15

theorem mX1_isKind {l : Launch} {D : va_G} {cA : Nat → ClassId} {r : Nat → Nat} {v : gV} {x0 : Int32} {xr : Int32} {v' : gV} (h : fX1_isKind v x0 = some (xr, v')) : Ct l D (tysC cA) (shC cA r) 50 r (ZC r) yX1_isKind cX1_isKind 1 (some .boolean) rmX1_isKind [.int x0] v (some (.int xr)) v' := ct_of plX1 ZC_ok (Nat.le_of_ble_eq_true rfl) rfl (fun _ X => bX1_isKind_0 X v x0 h)

def rmX1_isMore : Room := { frames := 0, cells := 0, slots := 0, locals := 0 }

set_option maxHeartbeats 4000000 in
set_option maxRecDepth 100000 in
theorem bX1_isMore_0 {l : Launch} {D : va_G} {cA : Nat → ClassId} {r : Nat → Nat} {G : gG} {xr : Int32} {v' : gV} (X : XC l D cA r RX1 cX1_isMore 1 (some .boolean) rmX1_isMore (some (.int xr)) v' G) (v : gV) (x0 : Int32) (h : fX1_isMore v x0 = some (xr, v')) : G v [(0, .int x0)] 0 [] := by
  unfold fX1_isMore at h
  refine g_iload_n X dX1_isMore_0 rfl 0 rfl ?_
  refine g_if_lt X 14 dX1_isMore_1 (by decide) (fun c => ?_) (fun c => ?_)
  · replace h := gTr c h
    refine g_iconst X 0 dX1_isMore_14 (by decide) ?_
    exact g_zretR X (Or.inl rfl) h dX1_isMore_15
  · replace h := gF c h
    refine g_iload_n X dX1_isMore_4 rfl 0 rfl ?_
    refine g_bipush X 9 dX1_isMore_5 (by decide) ?_
    refine g_icmp_gt X 14 dX1_isMore_7 (by decide) (fun c => ?_) (fun c => ?_)
    · replace h := gTr c h
      refine g_iconst X 0 dX1_isMore_14 (by decide) ?_
      exact g_zretR X (Or.inl rfl) h dX1_isMore_15
    · replace h := gF c h
      refine g_iconst X 1 dX1_isMore_10 (by decide) ?_
      refine g_goto X 15 dX1_isMore_11 (by decide) ?_
      exact g_zretR X (Or.inr rfl) h dX1_isMore_15

theorem mX1_isMore {l : Launch} {D : va_G} {cA : Nat → ClassId} {r : Nat → Nat} {v : gV} {x0 : Int32} {xr : Int32} {v' : gV} (h : fX1_isMore v x0 = some (xr, v')) : Ct l D (tysC cA) (shC cA r) 50 r (ZC r) yX1_isMore cX1_isMore 1 (some .boolean) rmX1_isMore [.int x0] v (some (.int xr)) v' := ct_of plX1 ZC_ok (Nat.le_of_ble_eq_true rfl) rfl (fun _ X => bX1_isMore_0 X v x0 h)

def rmX1_isOne : Room := { frames := 0, cells := 0, slots := 0, locals := 0 }

set_option maxHeartbeats 4000000 in
set_option maxRecDepth 100000 in
theorem bX1_isOne_4 {l : Launch} {D : va_G} {cA : Nat → ClassId} {r : Nat → Nat} {G : gG} {xr : Int32} {v' : gV} (X : XC l D cA r RX1 cX1_isOne 4 (some .boolean) rmX1_isOne (some (.int xr)) v' G) : ∀ (n : Nat) (v : gV) (x1 : Int32) (x2 : Int32) (x3 : Int32), fX1_isOne_4 n v x1 x2 x3 = some (xr, v') → G v [(1, .int x1), (2, .int x2), (3, .int x3)] 4 [] := by
  intro n
  induction n with
  | zero => intro v x1 x2 x3 h; rw [fX1_isOne_4] at h; cases h
  | succ n ih =>
    intro v x1 x2 x3 h
    rw [fX1_isOne_4] at h
    refine g_iload_n X dX1_isOne_4 rfl 2 rfl ?_
    refine g_bipush X 6 dX1_isOne_5 (by decide) ?_
    refine g_icmp_ge X 41 dX1_isOne_7 (by decide) (fun c => ?_) (fun c => ?_)
    · replace h := gTr c h
      refine g_iconst X 0 dX1_isOne_41 (by decide) ?_
      exact g_zretR X (Or.inl rfl) h dX1_isOne_42
    · replace h := gF c h
      refine g_iload_n X dX1_isOne_10 rfl 1 rfl ?_
      refine g_if_lt X 41 dX1_isOne_11 (by decide) (fun c => ?_) (fun c => ?_)
      · replace h := gTr c h
        refine g_iconst X 0 dX1_isOne_41 (by decide) ?_
        exact g_zretR X (Or.inl rfl) h dX1_isOne_42
      · replace h := gF c h
        refine g_iload_n X dX1_isOne_14 rfl 1 rfl ?_
        refine g_gets X zZ0 ks1_24 dX1_isOne_15 ?_
        refine g_alenT X zT0 6 rfl dX1_isOne_18 ?_
        refine g_icmp_ge X 41 dX1_isOne_19 (by decide) (fun c => ?_) (fun c => ?_)
        · replace h := gTr c h
          refine g_iconst X 0 dX1_isOne_41 (by decide) ?_
          exact g_zretR X (Or.inl rfl) h dX1_isOne_42
        · replace h := gF c h
          refine g_iload_n X dX1_isOne_22 rfl 1 rfl ?_
          refine g_iload_n X dX1_isOne_23 rfl 0 rfl ?_
          refine g_icmp_ne X 29 dX1_isOne_24 (by decide) (fun c => ?_) (fun c => ?_)
          · replace h := gF c h
            refine g_gets X zZ0 ks1_24 dX1_isOne_29 ?_
            refine g_iload_n X dX1_isOne_32 rfl 1 rfl ?_
            obtain ⟨c, h⟩ := gGd h
            refine g_ialdT X zT0 (gin_in c) dX1_isOne_33 ?_
            refine g_istore_n X (ls' := [(2, .int (gS0 x2.toNatClampNeg)), (1, .int x1), (3, .int x3)]) dX1_isOne_34 rfl (by decide) rfl ?_
            refine g_iinc X (x3 + 1) [(3, .int (x3 + 1)), (2, .int (gS0 x2.toNatClampNeg)), (1, .int x1)] dX1_isOne_35 2 rfl rfl (by decide) rfl ?_
            refine g_goto X 4 dX1_isOne_38 (by decide) ?_
            refine g_sub X [2, 1, 0] (ls' := [(1, .int x1), (2, .int (gS0 x2.toNatClampNeg)), (3, .int (x3 + 1))]) rfl ?_
            exact ih _ _ _ _  h
          · replace h := gTr c h
            refine g_iconst X 1 dX1_isOne_27 (by decide) ?_
            exact g_zretR X (Or.inr rfl) h dX1_isOne_28

set_option maxHeartbeats 4000000 in
set_option maxRecDepth 100000 in
theorem bX1_isOne_0 {l : Launch} {D : va_G} {cA : Nat → ClassId} {r : Nat → Nat} {G : gG} {xr : Int32} {v' : gV} (X : XC l D cA r RX1 cX1_isOne 4 (some .boolean) rmX1_isOne (some (.int xr)) v' G) (v : gV) (x0 : Int32) (x1 : Int32) (h : fX1_isOne v x0 x1 = some (xr, v')) : G v [(0, .int x0), (1, .int x1)] 0 [] := by
  unfold fX1_isOne at h
  refine g_iload_n X dX1_isOne_0 rfl 0 rfl ?_
  refine g_istore_n X (ls' := [(2, .int x0), (0, .int x0), (1, .int x1)]) dX1_isOne_1 rfl (by decide) rfl ?_
  refine g_iconst X 0 dX1_isOne_2 (by decide) ?_
  refine g_istore_n X (ls' := [(3, .int 0), (2, .int x0), (0, .int x0), (1, .int x1)]) dX1_isOne_3 rfl (by decide) rfl ?_
  refine g_sub X [3, 1, 0] (ls' := [(1, .int x1), (2, .int x0), (3, .int 0)]) rfl ?_
  exact bX1_isOne_4 X  _ _ _ _ _  h

theorem mX1_isOne {l : Launch} {D : va_G} {cA : Nat → ClassId} {r : Nat → Nat} {v : gV} {x0 : Int32} {x1 : Int32} {xr : Int32} {v' : gV} (h : fX1_isOne v x0 x1 = some (xr, v')) : Ct l D (tysC cA) (shC cA r) 50 r (ZC r) yX1_isOne cX1_isOne 4 (some .boolean) rmX1_isOne [.int x0, .int x1] v (some (.int xr)) v' := ct_of plX1 ZC_ok (Nat.le_of_ble_eq_true rfl) rfl (fun _ X => bX1_isOne_0 X v x0 x1 h)

def rmX1_has : Room := { frames := 0, cells := 0, slots := 0, locals := 0 }

set_option maxHeartbeats 4000000 in
set_option maxRecDepth 100000 in
theorem bX1_has_0 {l : Launch} {D : va_G} {cA : Nat → ClassId} {r : Nat → Nat} {G : gG} {xr : Int32} {v' : gV} (X : XC l D cA r RX1 cX1_has 2 (some .boolean) rmX1_has (some (.int xr)) v' G) (v : gV) (x1 : Int32) (h : fX1_has v x1 = some (xr, v')) : G v [(0, .ref (r 4)), (1, .int x1)] 0 [] := by
  unfold fX1_has at h
  refine g_iload_n X dX1_has_0 rfl 1 rfl ?_
  refine g_if_lt X 21 dX1_has_1 (by decide) (fun c => ?_) (fun c => ?_)
  · replace h := gTr c h
    refine g_iconst X 0 dX1_has_21 (by decide) ?_
    exact g_zretR X (Or.inl rfl) h dX1_has_22
  · replace h := gF c h
    refine g_iload_n X dX1_has_4 rfl 1 rfl ?_
    refine g_aload_n X dX1_has_5 rfl 0 rfl ?_
    refine g_get X fl1_27 hNC_4 (shC_4 _) rfl dX1_has_6 ?_
    refine g_icmp_ge X 21 dX1_has_9 (by decide) (fun c => ?_) (fun c => ?_)
    · replace h := gTr c h
      refine g_iconst X 0 dX1_has_21 (by decide) ?_
      exact g_zretR X (Or.inl rfl) h dX1_has_22
    · replace h := gF c h
      refine g_iload_n X dX1_has_12 rfl 1 rfl ?_
      refine g_iconst X 5 dX1_has_13 (by decide) ?_
      refine g_icmp_ge X 21 dX1_has_14 (by decide) (fun c => ?_) (fun c => ?_)
      · replace h := gTr c h
        refine g_iconst X 0 dX1_has_21 (by decide) ?_
        exact g_zretR X (Or.inl rfl) h dX1_has_22
      · replace h := gF c h
        refine g_iconst X 1 dX1_has_17 (by decide) ?_
        refine g_goto X 22 dX1_has_18 (by decide) ?_
        exact g_zretR X (Or.inr rfl) h dX1_has_22

theorem mX1_has {l : Launch} {D : va_G} {cA : Nat → ClassId} {r : Nat → Nat} {v : gV} {x1 : Int32} {xr : Int32} {v' : gV} (h : fX1_has v x1 = some (xr, v')) : Ct l D (tysC cA) (shC cA r) 50 r (ZC r) yX1_has cX1_has 2 (some .boolean) rmX1_has [.ref (r 4), .int x1] v (some (.int xr)) v' := ct_of plX1 ZC_ok (Nat.le_of_ble_eq_true rfl) rfl (fun _ X => bX1_has_0 X v x1 h)

def rmX1_put : Room := { frames := 1, cells := 0, slots := 0, locals := 20 }

set_option maxHeartbeats 4000000 in
set_option maxRecDepth 100000 in
theorem bX1_put_0 {l : Launch} {D : va_G} {cA : Nat → ClassId} {r : Nat → Nat} {G : gG} {xr : Int32} {v' : gV} (X : XC l D cA r RX1 cX1_put 4 (some .int) rmX1_put (some (.int xr)) v' G) (v : gV) (x1 : Int32) (x2 : Int32) (x3 : Int32) (h : fX1_put v x1 x2 x3 = some (xr, v')) : G v [(0, .ref (r 4)), (1, .int x1), (2, .int x2), (3, .int x3)] 0 [] := by
  unfold fX1_put at h
  refine g_iload_n X dX1_put_0 rfl 1 rfl ?_
  obtain ⟨y1, v2, hc3, h⟩ := gB_inv h
  refine g_callS X (st := []) (st' := [.int y1]) kcX1_isKind ktX1_isKind kl1_31 (⟨rfl, rfl, by decide, by decide⟩) (mX1_isKind hc3) rfl rfl (Nat.le_of_ble_eq_true rfl) rfl dX1_put_1 ?_
  refine g_if_eq X 33 dX1_put_4 (by decide) (fun c => ?_) (fun c => ?_)
  · replace h := gTr c h
    refine g_bipush X (-2) dX1_put_33 (by decide) ?_
    exact g_iretR X h dX1_put_35
  · replace h := gF c h
    refine g_iload_n X dX1_put_7 rfl 2 rfl ?_
    refine g_bipush X 11 dX1_put_8 (by decide) ?_
    refine g_icmp_lt X 33 dX1_put_10 (by decide) (fun c => ?_) (fun c => ?_)
    · replace h := gTr c h
      refine g_bipush X (-2) dX1_put_33 (by decide) ?_
      exact g_iretR X h dX1_put_35
    · replace h := gF c h
      refine g_iload_n X dX1_put_13 rfl 2 rfl ?_
      refine g_bipush X 39 dX1_put_14 (by decide) ?_
      refine g_icmp_gt X 33 dX1_put_16 (by decide) (fun c => ?_) (fun c => ?_)
      · replace h := gTr c h
        refine g_bipush X (-2) dX1_put_33 (by decide) ?_
        exact g_iretR X h dX1_put_35
      · replace h := gF c h
        refine g_iload_n X dX1_put_19 rfl 2 rfl ?_
        refine g_bipush X 10 dX1_put_20 (by decide) ?_
        refine g_irem X dX1_put_22 (by decide) ?_
        refine g_if_eq X 33 dX1_put_23 (by decide) (fun c => ?_) (fun c => ?_)
        · replace h := gTr c h
          refine g_bipush X (-2) dX1_put_33 (by decide) ?_
          exact g_iretR X h dX1_put_35
        · replace h := gF c h
          refine g_iload_n X dX1_put_26 rfl 3 rfl ?_
          obtain ⟨y4, v5, hc6, h⟩ := gB_inv h
          refine g_callS X (st := []) (st' := [.int y4]) kcX1_isMore ktX1_isMore kl1_35 (⟨rfl, rfl, by decide, by decide⟩) (mX1_isMore hc6) rfl rfl (Nat.le_of_ble_eq_true rfl) rfl dX1_put_27 ?_
          refine g_if_ne X 36 dX1_put_30 (by decide) (fun c => ?_) (fun c => ?_)
          · replace h := gF c h
            refine g_aload_n X dX1_put_36 rfl 0 rfl ?_
            refine g_get X fl1_27 hNC_4 (shC_4 _) rfl dX1_put_37 ?_
            refine g_if_lt X 51 dX1_put_40 (by decide) (fun c => ?_) (fun c => ?_)
            · replace h := gTr c h
              refine g_bipush X (-4) dX1_put_51 (by decide) ?_
              exact g_iretR X h dX1_put_53
            · replace h := gF c h
              refine g_aload_n X dX1_put_43 rfl 0 rfl ?_
              refine g_get X fl1_27 hNC_4 (shC_4 _) rfl dX1_put_44 ?_
              refine g_iconst X 5 dX1_put_47 (by decide) ?_
              refine g_icmp_lt X 54 dX1_put_48 (by decide) (fun c => ?_) (fun c => ?_)
              · replace h := gTr c h
                refine g_aload_n X dX1_put_54 rfl 0 rfl ?_
                refine g_get X fl1_9 hNC_4 (shC_4 _) rfl dX1_put_55 ?_
                refine g_aload_n X dX1_put_58 rfl 0 rfl ?_
                refine g_get X fl1_27 hNC_4 (shC_4 _) rfl dX1_put_59 ?_
                refine g_iload_n X dX1_put_62 rfl 1 rfl ?_
                obtain ⟨c, h⟩ := gGd h
                refine g_iast X hNC_9 (shC_9) rfl (gin_in c) dX1_put_63 ?_
                refine g_aload_n X dX1_put_64 rfl 0 rfl ?_
                refine g_get X fl1_15 hNC_4 (shC_4 _) rfl dX1_put_65 ?_
                refine g_aload_n X dX1_put_68 rfl 0 rfl ?_
                refine g_get X fl1_27 hNC_4 (shC_4 _) rfl dX1_put_69 ?_
                refine g_iload_n X dX1_put_72 rfl 2 rfl ?_
                refine g_bipush X 10 dX1_put_73 (by decide) ?_
                refine g_idiv X dX1_put_75 (by decide) ?_
                obtain ⟨c, h⟩ := gGd h
                refine g_iast X hNC_10 (shC_10) rfl (gin_in c) dX1_put_76 ?_
                refine g_aload_n X dX1_put_77 rfl 0 rfl ?_
                refine g_get X fl1_18 hNC_4 (shC_4 _) rfl dX1_put_78 ?_
                refine g_aload_n X dX1_put_81 rfl 0 rfl ?_
                refine g_get X fl1_27 hNC_4 (shC_4 _) rfl dX1_put_82 ?_
                refine g_iload_n X dX1_put_85 rfl 2 rfl ?_
                refine g_bipush X 10 dX1_put_86 (by decide) ?_
                refine g_irem X dX1_put_88 (by decide) ?_
                obtain ⟨c, h⟩ := gGd h
                refine g_iast X hNC_11 (shC_11) rfl (gin_in c) dX1_put_89 ?_
                refine g_aload_n X dX1_put_90 rfl 0 rfl ?_
                refine g_get X fl1_21 hNC_4 (shC_4 _) rfl dX1_put_91 ?_
                refine g_aload_n X dX1_put_94 rfl 0 rfl ?_
                refine g_get X fl1_27 hNC_4 (shC_4 _) rfl dX1_put_95 ?_
                refine g_iload_n X dX1_put_98 rfl 3 rfl ?_
                obtain ⟨c, h⟩ := gGd h
                refine g_iast X hNC_12 (shC_12) rfl (gin_in c) dX1_put_99 ?_
                refine g_aload_n X dX1_put_100 rfl 0 rfl ?_
                refine g_dup X dX1_put_101 rfl ?_
                refine g_get X fl1_27 hNC_4 (shC_4 _) rfl dX1_put_102 ?_
                refine g_iconst X 1 dX1_put_105 (by decide) ?_
                refine g_iadd X dX1_put_106 ?_
                refine g_put X (fsC1 r) fp1_27 hNC_4 (shC_4) (fun _ => rfl) (Nat.le_of_ble_eq_true rfl) dX1_put_107 ?_
                refine g_aload_n X dX1_put_110 rfl 0 rfl ?_
                refine g_get X fl1_27 hNC_4 (shC_4 _) rfl dX1_put_111 ?_
                refine g_iconst X 1 dX1_put_114 (by decide) ?_
                refine g_isub X dX1_put_115 ?_
                exact g_iretR X h dX1_put_116
              · replace h := gF c h
                refine g_bipush X (-4) dX1_put_51 (by decide) ?_
                exact g_iretR X h dX1_put_53
          · replace h := gTr c h
            refine g_bipush X (-2) dX1_put_33 (by decide) ?_
            exact g_iretR X h dX1_put_35

theorem mX1_put {l : Launch} {D : va_G} {cA : Nat → ClassId} {r : Nat → Nat} {v : gV} {x1 : Int32} {x2 : Int32} {x3 : Int32} {xr : Int32} {v' : gV} (h : fX1_put v x1 x2 x3 = some (xr, v')) : Ct l D (tysC cA) (shC cA r) 50 r (ZC r) yX1_put cX1_put 4 (some .int) rmX1_put [.ref (r 4), .int x1, .int x2, .int x3] v (some (.int xr)) v' := ct_of plX1 ZC_ok (Nat.le_of_ble_eq_true rfl) rfl (fun _ X => bX1_put_0 X v x1 x2 x3 h)

def rmX1_takes : Room := { frames := 1, cells := 0, slots := 0, locals := 21 }

set_option maxHeartbeats 4000000 in
set_option maxRecDepth 100000 in
theorem bX1_takes_0 {l : Launch} {D : va_G} {cA : Nat → ClassId} {r : Nat → Nat} {G : gG} {xr : Int32} {v' : gV} (X : XC l D cA r RX1 cX1_takes 3 (some .int) rmX1_takes (some (.int xr)) v' G) (v : gV) (x1 : Int32) (x2 : Int32) (h : fX1_takes v x1 x2 = some (xr, v')) : G v [(0, .ref (r 4)), (1, .int x1), (2, .int x2)] 0 [] := by
  unfold fX1_takes at h
  refine g_aload_n X dX1_takes_0 rfl 0 rfl ?_
  refine g_iload_n X dX1_takes_1 rfl 1 rfl ?_
  obtain ⟨y1, v2, hc3, h⟩ := gB_inv h
  refine g_callV X (st := []) (st' := [.int y1]) kcX1_has kvX1_has kl1_38 (⟨rfl, rfl, by decide, by decide⟩) (mX1_has hc3) hNC_4 (shC_4 _) rfl rfl rfl (Nat.le_of_ble_eq_true rfl) rfl dX1_takes_2 ?_
  refine g_if_ne X 10 dX1_takes_5 (by decide) (fun c => ?_) (fun c => ?_)
  · replace h := gF c h
    refine g_aload_n X dX1_takes_10 rfl 0 rfl ?_
    refine g_get X fl1_9 hNC_4 (shC_4 _) rfl dX1_takes_11 ?_
    refine g_iload_n X dX1_takes_14 rfl 1 rfl ?_
    obtain ⟨c, h⟩ := gGd h
    refine g_iald X hNC_9 (shC_9 _) rfl (gin_in c) dX1_takes_15 ?_
    by_cases c : (v2 9 x1.toNatClampNeg) = 2
    · replace h := gTr c h
      refine g_tableIn X 48 dX1_takes_16 (by rw [c]; decide) (by rw [c]; decide) (by rw [c]; rfl) (by decide) ?_
      refine g_aload_n X dX1_takes_48 rfl 0 rfl ?_
      refine g_get X fl1_18 hNC_4 (shC_4 _) rfl dX1_takes_49 ?_
      refine g_iload_n X dX1_takes_52 rfl 1 rfl ?_
      obtain ⟨c, h⟩ := gGd h
      refine g_iald X hNC_11 (shC_11 _) rfl (gin_in c) dX1_takes_53 ?_
      refine g_iload_n X dX1_takes_54 rfl 2 rfl ?_
      refine g_iconst X 2 dX1_takes_55 (by decide) ?_
      refine g_irem X dX1_takes_56 (by decide) ?_
      refine g_iconst X 1 dX1_takes_57 (by decide) ?_
      refine g_icmp_ne X 70 dX1_takes_58 (by decide) (fun c => ?_) (fun c => ?_)
      · replace h := gF c h
        refine g_iconst X 0 dX1_takes_70 (by decide) ?_
        refine g_iadd X dX1_takes_71 ?_
        exact g_iretR X h dX1_takes_72
      · replace h := gTr c h
        refine g_aload_n X dX1_takes_61 rfl 0 rfl ?_
        refine g_get X fl1_21 hNC_4 (shC_4 _) rfl dX1_takes_62 ?_
        refine g_iload_n X dX1_takes_65 rfl 1 rfl ?_
        obtain ⟨c, h⟩ := gGd h
        refine g_iald X hNC_12 (shC_12 _) rfl (gin_in c) dX1_takes_66 ?_
        refine g_goto X 71 dX1_takes_67 (by decide) ?_
        refine g_iadd X dX1_takes_71 ?_
        exact g_iretR X h dX1_takes_72
    · replace h := gF c h
      have n2 : ((v2 9 x1.toNatClampNeg)).toInt ≠ 2 := fun q => c (Int32.toInt_inj.mp (q.trans (by decide)))
      clear c
      by_cases c : (v2 9 x1.toNatClampNeg) = 3
      · replace h := gTr c h
        refine g_tableIn X 105 dX1_takes_16 (by rw [c]; decide) (by rw [c]; decide) (by rw [c]; rfl) (by decide) ?_
        refine g_aload_n X dX1_takes_105 rfl 0 rfl ?_
        refine g_get X fl1_18 hNC_4 (shC_4 _) rfl dX1_takes_106 ?_
        refine g_iload_n X dX1_takes_109 rfl 1 rfl ?_
        obtain ⟨c, h⟩ := gGd h
        refine g_iald X hNC_11 (shC_11 _) rfl (gin_in c) dX1_takes_110 ?_
        exact g_iretR X h dX1_takes_111
      · replace h := gF c h
        have n3 : ((v2 9 x1.toNatClampNeg)).toInt ≠ 3 := fun q => c (Int32.toInt_inj.mp (q.trans (by decide)))
        clear c
        by_cases c : (v2 9 x1.toNatClampNeg) = 4
        · replace h := gTr c h
          refine g_tableIn X 48 dX1_takes_16 (by rw [c]; decide) (by rw [c]; decide) (by rw [c]; rfl) (by decide) ?_
          refine g_aload_n X dX1_takes_48 rfl 0 rfl ?_
          refine g_get X fl1_18 hNC_4 (shC_4 _) rfl dX1_takes_49 ?_
          refine g_iload_n X dX1_takes_52 rfl 1 rfl ?_
          obtain ⟨c, h⟩ := gGd h
          refine g_iald X hNC_11 (shC_11 _) rfl (gin_in c) dX1_takes_53 ?_
          refine g_iload_n X dX1_takes_54 rfl 2 rfl ?_
          refine g_iconst X 2 dX1_takes_55 (by decide) ?_
          refine g_irem X dX1_takes_56 (by decide) ?_
          refine g_iconst X 1 dX1_takes_57 (by decide) ?_
          refine g_icmp_ne X 70 dX1_takes_58 (by decide) (fun c => ?_) (fun c => ?_)
          · replace h := gF c h
            refine g_iconst X 0 dX1_takes_70 (by decide) ?_
            refine g_iadd X dX1_takes_71 ?_
            exact g_iretR X h dX1_takes_72
          · replace h := gTr c h
            refine g_aload_n X dX1_takes_61 rfl 0 rfl ?_
            refine g_get X fl1_21 hNC_4 (shC_4 _) rfl dX1_takes_62 ?_
            refine g_iload_n X dX1_takes_65 rfl 1 rfl ?_
            obtain ⟨c, h⟩ := gGd h
            refine g_iald X hNC_12 (shC_12 _) rfl (gin_in c) dX1_takes_66 ?_
            refine g_goto X 71 dX1_takes_67 (by decide) ?_
            refine g_iadd X dX1_takes_71 ?_
            exact g_iretR X h dX1_takes_72
        · replace h := gF c h
          have n4 : ((v2 9 x1.toNatClampNeg)).toInt ≠ 4 := fun q => c (Int32.toInt_inj.mp (q.trans (by decide)))
          clear c
          by_cases c : (v2 9 x1.toNatClampNeg) = 5
          · replace h := gTr c h
            refine g_tableIn X 73 dX1_takes_16 (by rw [c]; decide) (by rw [c]; decide) (by rw [c]; rfl) (by decide) ?_
            refine g_iload_n X dX1_takes_73 rfl 2 rfl ?_
            refine g_aload_n X dX1_takes_74 rfl 0 rfl ?_
            refine g_get X fl1_21 hNC_4 (shC_4 _) rfl dX1_takes_75 ?_
            refine g_iload_n X dX1_takes_78 rfl 1 rfl ?_
            obtain ⟨c, h⟩ := gGd h
            refine g_iald X hNC_12 (shC_12 _) rfl (gin_in c) dX1_takes_79 ?_
            refine g_icmp_lt X 98 dX1_takes_80 (by decide) (fun c => ?_) (fun c => ?_)
            · replace h := gTr c h
              refine g_aload_n X dX1_takes_98 rfl 0 rfl ?_
              refine g_get X fl1_18 hNC_4 (shC_4 _) rfl dX1_takes_99 ?_
              refine g_iload_n X dX1_takes_102 rfl 1 rfl ?_
              obtain ⟨c, h⟩ := gGd h
              refine g_iald X hNC_11 (shC_11 _) rfl (gin_in c) dX1_takes_103 ?_
              exact g_iretR X h dX1_takes_104
            · replace h := gF c h
              refine g_iconst X 1 dX1_takes_83 (by decide) ?_
              refine g_aload_n X dX1_takes_84 rfl 0 rfl ?_
              refine g_get X fl1_18 hNC_4 (shC_4 _) rfl dX1_takes_85 ?_
              refine g_iload_n X dX1_takes_88 rfl 1 rfl ?_
              obtain ⟨c, h⟩ := gGd h
              refine g_iald X hNC_11 (shC_11 _) rfl (gin_in c) dX1_takes_89 ?_
              refine g_iconst X 1 dX1_takes_90 (by decide) ?_
              refine g_isub X dX1_takes_91 ?_
              refine g_max X km1_41 kmath_max.1 kmath_max.2.1 kmath_max.2.2 (by decide) (by decide) (Nat.le_of_ble_eq_true rfl) dX1_takes_92 ?_
              refine g_goto X 104 dX1_takes_95 (by decide) ?_
              exact g_iretR X h dX1_takes_104
          · replace h := gF c h
            have n5 : ((v2 9 x1.toNatClampNeg)).toInt ≠ 5 := fun q => c (Int32.toInt_inj.mp (q.trans (by decide)))
            clear c
            refine g_tableOut X 105 dX1_takes_16 (by omega) (by decide) ?_
            refine g_aload_n X dX1_takes_105 rfl 0 rfl ?_
            refine g_get X fl1_18 hNC_4 (shC_4 _) rfl dX1_takes_106 ?_
            refine g_iload_n X dX1_takes_109 rfl 1 rfl ?_
            obtain ⟨c, h⟩ := gGd h
            refine g_iald X hNC_11 (shC_11 _) rfl (gin_in c) dX1_takes_110 ?_
            exact g_iretR X h dX1_takes_111
  · replace h := gTr c h
    refine g_iconst X 0 dX1_takes_8 (by decide) ?_
    exact g_iretR X h dX1_takes_9

theorem mX1_takes {l : Launch} {D : va_G} {cA : Nat → ClassId} {r : Nat → Nat} {v : gV} {x1 : Int32} {x2 : Int32} {xr : Int32} {v' : gV} (h : fX1_takes v x1 x2 = some (xr, v')) : Ct l D (tysC cA) (shC cA r) 50 r (ZC r) yX1_takes cX1_takes 3 (some .int) rmX1_takes [.ref (r 4), .int x1, .int x2] v (some (.int xr)) v' := ct_of plX1 ZC_ok (Nat.le_of_ble_eq_true rfl) rfl (fun _ X => bX1_takes_0 X v x1 x2 h)

def rmX1_gives : Room := { frames := 1, cells := 0, slots := 0, locals := 21 }

set_option maxHeartbeats 4000000 in
set_option maxRecDepth 100000 in
theorem bX1_gives_0 {l : Launch} {D : va_G} {cA : Nat → ClassId} {r : Nat → Nat} {G : gG} {xr : Int32} {v' : gV} (X : XC l D cA r RX1 cX1_gives 3 (some .int) rmX1_gives (some (.int xr)) v' G) (v : gV) (x1 : Int32) (x2 : Int32) (h : fX1_gives v x1 x2 = some (xr, v')) : G v [(0, .ref (r 4)), (1, .int x1), (2, .int x2)] 0 [] := by
  unfold fX1_gives at h
  refine g_aload_n X dX1_gives_0 rfl 0 rfl ?_
  refine g_iload_n X dX1_gives_1 rfl 1 rfl ?_
  obtain ⟨y1, v2, hc3, h⟩ := gB_inv h
  refine g_callV X (st := []) (st' := [.int y1]) kcX1_has kvX1_has kl1_38 (⟨rfl, rfl, by decide, by decide⟩) (mX1_has hc3) hNC_4 (shC_4 _) rfl rfl rfl (Nat.le_of_ble_eq_true rfl) rfl dX1_gives_2 ?_
  refine g_if_ne X 10 dX1_gives_5 (by decide) (fun c => ?_) (fun c => ?_)
  · replace h := gF c h
    refine g_aload_n X dX1_gives_10 rfl 0 rfl ?_
    refine g_get X fl1_9 hNC_4 (shC_4 _) rfl dX1_gives_11 ?_
    refine g_iload_n X dX1_gives_14 rfl 1 rfl ?_
    obtain ⟨c, h⟩ := gGd h
    refine g_iald X hNC_9 (shC_9 _) rfl (gin_in c) dX1_gives_15 ?_
    by_cases c : (v2 9 x1.toNatClampNeg) = 3
    · replace h := gTr c h
      refine g_lookup X 44 dX1_gives_16 rfl (by first | (rw [c]; rfl) | rw [c]) (by decide) ?_
      refine g_aload_n X dX1_gives_44 rfl 0 rfl ?_
      refine g_get X fl1_18 hNC_4 (shC_4 _) rfl dX1_gives_45 ?_
      refine g_iload_n X dX1_gives_48 rfl 1 rfl ?_
      obtain ⟨c, h⟩ := gGd h
      refine g_iald X hNC_11 (shC_11 _) rfl (gin_in c) dX1_gives_49 ?_
      refine g_iconst X 5 dX1_gives_50 (by decide) ?_
      refine g_icmp_le X 58 dX1_gives_51 (by decide) (fun c => ?_) (fun c => ?_)
      · replace h := gTr c h
        refine g_iconst X 1 dX1_gives_58 (by decide) ?_
        exact g_iretR X h dX1_gives_59
      · replace h := gF c h
        refine g_iconst X 2 dX1_gives_54 (by decide) ?_
        refine g_goto X 59 dX1_gives_55 (by decide) ?_
        exact g_iretR X h dX1_gives_59
    · replace h := gF c h
      have n3 : ((v2 9 x1.toNatClampNeg)).toInt ≠ 3 := fun q => c (Int32.toInt_inj.mp (q.trans (by decide)))
      clear c
      by_cases c : (v2 9 x1.toNatClampNeg) = 4
      · replace h := gTr c h
        refine g_lookup X 60 dX1_gives_16 rfl (by first | (rw [c]; rfl) | rw [c]) (by decide) ?_
        refine g_iload_n X dX1_gives_60 rfl 2 rfl ?_
        refine g_bipush X 7 dX1_gives_61 (by decide) ?_
        refine g_irem X dX1_gives_63 (by decide) ?_
        refine g_aload_n X dX1_gives_64 rfl 0 rfl ?_
        refine g_get X fl1_21 hNC_4 (shC_4 _) rfl dX1_gives_65 ?_
        refine g_iload_n X dX1_gives_68 rfl 1 rfl ?_
        obtain ⟨c, h⟩ := gGd h
        refine g_iald X hNC_12 (shC_12 _) rfl (gin_in c) dX1_gives_69 ?_
        refine g_bipush X 7 dX1_gives_70 (by decide) ?_
        refine g_irem X dX1_gives_72 (by decide) ?_
        refine g_icmp_ne X 80 dX1_gives_73 (by decide) (fun c => ?_) (fun c => ?_)
        · replace h := gF c h
          refine g_iconst X 0 dX1_gives_80 (by decide) ?_
          exact g_iretR X h dX1_gives_81
        · replace h := gTr c h
          refine g_iconst X 2 dX1_gives_76 (by decide) ?_
          refine g_goto X 81 dX1_gives_77 (by decide) ?_
          exact g_iretR X h dX1_gives_81
      · replace h := gF c h
        have n4 : ((v2 9 x1.toNatClampNeg)).toInt ≠ 4 := fun q => c (Int32.toInt_inj.mp (q.trans (by decide)))
        clear c
        refine g_lookup X (off := 66) 82 dX1_gives_16 rfl (by simp only [Op.lookupswitch.offset_cons, if_neg (Ne.symm n3), if_neg (Ne.symm n4), Op.lookupswitch.offset_nil]) (by decide) ?_
        refine g_iconst X 1 dX1_gives_82 (by decide) ?_
        exact g_iretR X h dX1_gives_83
  · replace h := gTr c h
    refine g_iconst X 0 dX1_gives_8 (by decide) ?_
    exact g_iretR X h dX1_gives_9

theorem mX1_gives {l : Launch} {D : va_G} {cA : Nat → ClassId} {r : Nat → Nat} {v : gV} {x1 : Int32} {x2 : Int32} {xr : Int32} {v' : gV} (h : fX1_gives v x1 x2 = some (xr, v')) : Ct l D (tysC cA) (shC cA r) 50 r (ZC r) yX1_gives cX1_gives 3 (some .int) rmX1_gives [.ref (r 4), .int x1, .int x2] v (some (.int xr)) v' := ct_of plX1 ZC_ok (Nat.le_of_ble_eq_true rfl) rfl (fun _ X => bX1_gives_0 X v x1 x2 h)

def rmX1_lends : Room := { frames := 1, cells := 0, slots := 0, locals := 21 }

set_option maxHeartbeats 4000000 in
set_option maxRecDepth 100000 in
theorem bX1_lends_0 {l : Launch} {D : va_G} {cA : Nat → ClassId} {r : Nat → Nat} {G : gG} {xr : Int32} {v' : gV} (X : XC l D cA r RX1 cX1_lends 2 (some .int) rmX1_lends (some (.int xr)) v' G) (v : gV) (x1 : Int32) (h : fX1_lends v x1 = some (xr, v')) : G v [(0, .ref (r 4)), (1, .int x1)] 0 [] := by
  unfold fX1_lends at h
  refine g_aload_n X dX1_lends_0 rfl 0 rfl ?_
  refine g_iload_n X dX1_lends_1 rfl 1 rfl ?_
  obtain ⟨y1, v2, hc3, h⟩ := gB_inv h
  refine g_callV X (st := []) (st' := [.int y1]) kcX1_has kvX1_has kl1_38 (⟨rfl, rfl, by decide, by decide⟩) (mX1_has hc3) hNC_4 (shC_4 _) rfl rfl rfl (Nat.le_of_ble_eq_true rfl) rfl dX1_lends_2 ?_
  refine g_if_ne X 10 dX1_lends_5 (by decide) (fun c => ?_) (fun c => ?_)
  · replace h := gF c h
    refine g_aload_n X dX1_lends_10 rfl 0 rfl ?_
    refine g_get X fl1_9 hNC_4 (shC_4 _) rfl dX1_lends_11 ?_
    refine g_iload_n X dX1_lends_14 rfl 1 rfl ?_
    obtain ⟨c, h⟩ := gGd h
    refine g_iald X hNC_9 (shC_9 _) rfl (gin_in c) dX1_lends_15 ?_
    by_cases c : (v2 9 x1.toNatClampNeg) = 1
    · replace h := gTr c h
      refine g_lookup X 44 dX1_lends_16 rfl (by first | (rw [c]; rfl) | rw [c]) (by decide) ?_
      refine g_iconst X 1 dX1_lends_44 (by decide) ?_
      exact g_iretR X h dX1_lends_45
    · replace h := gF c h
      have n1 : ((v2 9 x1.toNatClampNeg)).toInt ≠ 1 := fun q => c (Int32.toInt_inj.mp (q.trans (by decide)))
      clear c
      by_cases c : (v2 9 x1.toNatClampNeg) = 3
      · replace h := gTr c h
        refine g_lookup X 46 dX1_lends_16 rfl (by first | (rw [c]; rfl) | rw [c]) (by decide) ?_
        refine g_iconst X 1 dX1_lends_46 (by decide) ?_
        refine g_aload_n X dX1_lends_47 rfl 0 rfl ?_
        refine g_get X fl1_21 hNC_4 (shC_4 _) rfl dX1_lends_48 ?_
        refine g_iload_n X dX1_lends_51 rfl 1 rfl ?_
        obtain ⟨c, h⟩ := gGd h
        refine g_iald X hNC_12 (shC_12 _) rfl (gin_in c) dX1_lends_52 ?_
        refine g_iadd X dX1_lends_53 ?_
        exact g_iretR X h dX1_lends_54
      · replace h := gF c h
        have n3 : ((v2 9 x1.toNatClampNeg)).toInt ≠ 3 := fun q => c (Int32.toInt_inj.mp (q.trans (by decide)))
        clear c
        refine g_lookup X (off := 39) 55 dX1_lends_16 rfl (by simp only [Op.lookupswitch.offset_cons, if_neg (Ne.symm n1), if_neg (Ne.symm n3), Op.lookupswitch.offset_nil]) (by decide) ?_
        refine g_iconst X 0 dX1_lends_55 (by decide) ?_
        exact g_iretR X h dX1_lends_56
  · replace h := gTr c h
    refine g_iconst X 0 dX1_lends_8 (by decide) ?_
    exact g_iretR X h dX1_lends_9

theorem mX1_lends {l : Launch} {D : va_G} {cA : Nat → ClassId} {r : Nat → Nat} {v : gV} {x1 : Int32} {xr : Int32} {v' : gV} (h : fX1_lends v x1 = some (xr, v')) : Ct l D (tysC cA) (shC cA r) 50 r (ZC r) yX1_lends cX1_lends 2 (some .int) rmX1_lends [.ref (r 4), .int x1] v (some (.int xr)) v' := ct_of plX1 ZC_ok (Nat.le_of_ble_eq_true rfl) rfl (fun _ X => bX1_lends_0 X v x1 h)

def rmX2_isSheet : Room := { frames := 0, cells := 0, slots := 0, locals := 0 }

set_option maxHeartbeats 4000000 in
set_option maxRecDepth 100000 in
theorem bX2_isSheet_0 {l : Launch} {D : va_G} {cA : Nat → ClassId} {r : Nat → Nat} {G : gG} {xr : Int32} {v' : gV} (X : XC l D cA r RX2 cX2_isSheet 1 (some .boolean) rmX2_isSheet (some (.int xr)) v' G) (v : gV) (x0 : Int32) (h : fX2_isSheet v x0 = some (xr, v')) : G v [(0, .int x0)] 0 [] := by
  unfold fX2_isSheet at h
  refine g_iload_n X dX2_isSheet_0 rfl 0 rfl ?_
  refine g_if_lt X 13 dX2_isSheet_1 (by decide) (fun c => ?_) (fun c => ?_)
  · replace h := gTr c h
    refine g_iconst X 0 dX2_isSheet_13 (by decide) ?_
    exact g_zretR X (Or.inl rfl) h dX2_isSheet_14
  · replace h := gF c h
    refine g_iload_n X dX2_isSheet_4 rfl 0 rfl ?_
    refine g_iconst X 4 dX2_isSheet_5 (by decide) ?_
    refine g_icmp_ge X 13 dX2_isSheet_6 (by decide) (fun c => ?_) (fun c => ?_)
    · replace h := gTr c h
      refine g_iconst X 0 dX2_isSheet_13 (by decide) ?_
      exact g_zretR X (Or.inl rfl) h dX2_isSheet_14
    · replace h := gF c h
      refine g_iconst X 1 dX2_isSheet_9 (by decide) ?_
      refine g_goto X 14 dX2_isSheet_10 (by decide) ?_
      exact g_zretR X (Or.inr rfl) h dX2_isSheet_14

theorem mX2_isSheet {l : Launch} {D : va_G} {cA : Nat → ClassId} {r : Nat → Nat} {v : gV} {x0 : Int32} {xr : Int32} {v' : gV} (h : fX2_isSheet v x0 = some (xr, v')) : Ct l D (tysC cA) (shC cA r) 50 r (ZC r) yX2_isSheet cX2_isSheet 1 (some .boolean) rmX2_isSheet [.int x0] v (some (.int xr)) v' := ct_of plX2 ZC_ok (Nat.le_of_ble_eq_true rfl) rfl (fun _ X => bX2_isSheet_0 X v x0 h)

def rmX2_isSort : Room := { frames := 0, cells := 0, slots := 0, locals := 0 }

set_option maxHeartbeats 4000000 in
set_option maxRecDepth 100000 in
theorem bX2_isSort_0 {l : Launch} {D : va_G} {cA : Nat → ClassId} {r : Nat → Nat} {G : gG} {xr : Int32} {v' : gV} (X : XC l D cA r RX2 cX2_isSort 1 (some .boolean) rmX2_isSort (some (.int xr)) v' G) (v : gV) (x0 : Int32) (h : fX2_isSort v x0 = some (xr, v')) : G v [(0, .int x0)] 0 [] := by
  unfold fX2_isSort at h
  refine g_iload_n X dX2_isSort_0 rfl 0 rfl ?_
  refine g_if_lt X 13 dX2_isSort_1 (by decide) (fun c => ?_) (fun c => ?_)
  · replace h := gTr c h
    refine g_iconst X 0 dX2_isSort_13 (by decide) ?_
    exact g_zretR X (Or.inl rfl) h dX2_isSort_14
  · replace h := gF c h
    refine g_iload_n X dX2_isSort_4 rfl 0 rfl ?_
    refine g_iconst X 2 dX2_isSort_5 (by decide) ?_
    refine g_icmp_gt X 13 dX2_isSort_6 (by decide) (fun c => ?_) (fun c => ?_)
    · replace h := gTr c h
      refine g_iconst X 0 dX2_isSort_13 (by decide) ?_
      exact g_zretR X (Or.inl rfl) h dX2_isSort_14
    · replace h := gF c h
      refine g_iconst X 1 dX2_isSort_9 (by decide) ?_
      refine g_goto X 14 dX2_isSort_10 (by decide) ?_
      exact g_zretR X (Or.inr rfl) h dX2_isSort_14

theorem mX2_isSort {l : Launch} {D : va_G} {cA : Nat → ClassId} {r : Nat → Nat} {v : gV} {x0 : Int32} {xr : Int32} {v' : gV} (h : fX2_isSort v x0 = some (xr, v')) : Ct l D (tysC cA) (shC cA r) 50 r (ZC r) yX2_isSort cX2_isSort 1 (some .boolean) rmX2_isSort [.int x0] v (some (.int xr)) v' := ct_of plX2 ZC_ok (Nat.le_of_ble_eq_true rfl) rfl (fun _ X => bX2_isSort_0 X v x0 h)

def rmX2_refusal : Room := { frames := 1, cells := 0, slots := 0, locals := 20 }

set_option maxHeartbeats 4000000 in
set_option maxRecDepth 100000 in
theorem bX2_refusal_0 {l : Launch} {D : va_G} {cA : Nat → ClassId} {r : Nat → Nat} {G : gG} {xr : Int32} {v' : gV} (X : XC l D cA r RX2 cX2_refusal 2 (some .int) rmX2_refusal (some (.int xr)) v' G) (v : gV) (x1 : Int32) (h : fX2_refusal v x1 = some (xr, v')) : G v [(0, .ref (r 7)), (1, .int x1)] 0 [] := by
  unfold fX2_refusal at h
  refine g_iload_n X dX2_refusal_0 rfl 1 rfl ?_
  obtain ⟨y1, v2, hc3, h⟩ := gB_inv h
  refine g_callS X (st := []) (st' := [.int y1]) kcX2_isSheet ktX2_isSheet kl2_23 (⟨rfl, rfl, by decide, by decide⟩) (mX2_isSheet hc3) rfl rfl (Nat.le_of_ble_eq_true rfl) rfl dX2_refusal_1 ?_
  refine g_if_ne X 10 dX2_refusal_4 (by decide) (fun c => ?_) (fun c => ?_)
  · replace h := gF c h
    refine g_aload_n X dX2_refusal_10 rfl 0 rfl ?_
    refine g_get X fl2_16 hNC_7 (shC_7 _) rfl dX2_refusal_11 ?_
    refine g_iload_n X dX2_refusal_14 rfl 1 rfl ?_
    obtain ⟨c, h⟩ := gGd h
    refine g_iald X hNC_15 (shC_15 _) rfl (gin_in c) dX2_refusal_15 ?_
    refine g_iconst X (-1) dX2_refusal_16 (by decide) ?_
    refine g_icmp_ne X 25 dX2_refusal_17 (by decide) (fun c => ?_) (fun c => ?_)
    · replace h := gF c h
      refine g_iconst X 0 dX2_refusal_25 (by decide) ?_
      exact g_iretR X h dX2_refusal_26
    · replace h := gTr c h
      refine g_bipush X (-11) dX2_refusal_20 (by decide) ?_
      refine g_goto X 26 dX2_refusal_22 (by decide) ?_
      exact g_iretR X h dX2_refusal_26
  · replace h := gTr c h
    refine g_bipush X (-2) dX2_refusal_7 (by decide) ?_
    exact g_iretR X h dX2_refusal_9

theorem mX2_refusal {l : Launch} {D : va_G} {cA : Nat → ClassId} {r : Nat → Nat} {v : gV} {x1 : Int32} {xr : Int32} {v' : gV} (h : fX2_refusal v x1 = some (xr, v')) : Ct l D (tysC cA) (shC cA r) 50 r (ZC r) yX2_refusal cX2_refusal 2 (some .int) rmX2_refusal [.ref (r 7), .int x1] v (some (.int xr)) v' := ct_of plX2 ZC_ok (Nat.le_of_ble_eq_true rfl) rfl (fun _ X => bX2_refusal_0 X v x1 h)

def rmX2_sizeOf : Room := { frames := 1, cells := 0, slots := 0, locals := 20 }

set_option maxHeartbeats 4000000 in
set_option maxRecDepth 100000 in
theorem bX2_sizeOf_0 {l : Launch} {D : va_G} {cA : Nat → ClassId} {r : Nat → Nat} {G : gG} {xr : Int32} {v' : gV} (X : XC l D cA r RX2 cX2_sizeOf 2 (some .int) rmX2_sizeOf (some (.int xr)) v' G) (v : gV) (x1 : Int32) (h : fX2_sizeOf v x1 = some (xr, v')) : G v [(0, .ref (r 7)), (1, .int x1)] 0 [] := by
  unfold fX2_sizeOf at h
  refine g_iload_n X dX2_sizeOf_0 rfl 1 rfl ?_
  obtain ⟨y1, v2, hc3, h⟩ := gB_inv h
  refine g_callS X (st := []) (st' := [.int y1]) kcX2_isSheet ktX2_isSheet kl2_23 (⟨rfl, rfl, by decide, by decide⟩) (mX2_isSheet hc3) rfl rfl (Nat.le_of_ble_eq_true rfl) rfl dX2_sizeOf_1 ?_
  refine g_if_eq X 16 dX2_sizeOf_4 (by decide) (fun c => ?_) (fun c => ?_)
  · replace h := gTr c h
    refine g_iconst X 0 dX2_sizeOf_16 (by decide) ?_
    exact g_iretR X h dX2_sizeOf_17
  · replace h := gF c h
    refine g_aload_n X dX2_sizeOf_7 rfl 0 rfl ?_
    refine g_get X fl2_20 hNC_7 (shC_7 _) rfl dX2_sizeOf_8 ?_
    refine g_iload_n X dX2_sizeOf_11 rfl 1 rfl ?_
    obtain ⟨c, h⟩ := gGd h
    refine g_iald X hNC_16 (shC_16 _) rfl (gin_in c) dX2_sizeOf_12 ?_
    refine g_goto X 17 dX2_sizeOf_13 (by decide) ?_
    exact g_iretR X h dX2_sizeOf_17

theorem mX2_sizeOf {l : Launch} {D : va_G} {cA : Nat → ClassId} {r : Nat → Nat} {v : gV} {x1 : Int32} {xr : Int32} {v' : gV} (h : fX2_sizeOf v x1 = some (xr, v')) : Ct l D (tysC cA) (shC cA r) 50 r (ZC r) yX2_sizeOf cX2_sizeOf 2 (some .int) rmX2_sizeOf [.ref (r 7), .int x1] v (some (.int xr)) v' := ct_of plX2 ZC_ok (Nat.le_of_ble_eq_true rfl) rfl (fun _ X => bX2_sizeOf_0 X v x1 h)

def rmX2_lose : Room := { frames := 1, cells := 0, slots := 0, locals := 20 }

set_option maxHeartbeats 4000000 in
set_option maxRecDepth 100000 in
theorem bX2_lose_0 {l : Launch} {D : va_G} {cA : Nat → ClassId} {r : Nat → Nat} {G : gG} {xr : Unit} {v' : gV} (X : XC l D cA r RX2 cX2_lose 2 none rmX2_lose none v' G) (v : gV) (x1 : Int32) (h : fX2_lose v x1 = some (xr, v')) : G v [(0, .ref (r 7)), (1, .int x1)] 0 [] := by
  unfold fX2_lose at h
  refine g_iload_n X dX2_lose_0 rfl 1 rfl ?_
  obtain ⟨y1, v2, hc3, h⟩ := gB_inv h
  refine g_callS X (st := []) (st' := [.int y1]) kcX2_isSheet ktX2_isSheet kl2_23 (⟨rfl, rfl, by decide, by decide⟩) (mX2_isSheet hc3) rfl rfl (Nat.le_of_ble_eq_true rfl) rfl dX2_lose_1 ?_
  refine g_if_eq X 21 dX2_lose_4 (by decide) (fun c => ?_) (fun c => ?_)
  · replace h := gTr c h
    exact g_vretR X h dX2_lose_21
  · replace h := gF c h
    refine g_aload_n X dX2_lose_7 rfl 0 rfl ?_
    refine g_get X fl2_16 hNC_7 (shC_7 _) rfl dX2_lose_8 ?_
    refine g_iload_n X dX2_lose_11 rfl 1 rfl ?_
    refine g_iconst X (-1) dX2_lose_12 (by decide) ?_
    obtain ⟨c, h⟩ := gGd h
    refine g_iast X hNC_15 (shC_15) rfl (gin_in c) dX2_lose_13 ?_
    refine g_aload_n X dX2_lose_14 rfl 0 rfl ?_
    refine g_get X fl2_20 hNC_7 (shC_7 _) rfl dX2_lose_15 ?_
    refine g_iload_n X dX2_lose_18 rfl 1 rfl ?_
    refine g_iconst X 0 dX2_lose_19 (by decide) ?_
    obtain ⟨c, h⟩ := gGd h
    refine g_iast X hNC_16 (shC_16) rfl (gin_in c) dX2_lose_20 ?_
    exact g_vretR X h dX2_lose_21

theorem mX2_lose {l : Launch} {D : va_G} {cA : Nat → ClassId} {r : Nat → Nat} {v : gV} {x1 : Int32} {xr : Unit} {v' : gV} (h : fX2_lose v x1 = some (xr, v')) : Ct l D (tysC cA) (shC cA r) 50 r (ZC r) yX2_lose cX2_lose 2 none rmX2_lose [.ref (r 7), .int x1] v none v' := ct_of plX2 ZC_ok (Nat.le_of_ble_eq_true rfl) rfl (fun _ X => bX2_lose_0 X v x1 h)

def rmX2_become : Room := { frames := 1, cells := 0, slots := 0, locals := 20 }

set_option maxHeartbeats 4000000 in
set_option maxRecDepth 100000 in
theorem bX2_become_35 {l : Launch} {D : va_G} {cA : Nat → ClassId} {r : Nat → Nat} {G : gG} {xr : Unit} {v' : gV} (X : XC l D cA r RX2 cX2_become 5 none rmX2_become none v' G) : ∀ (n : Nat) (v : gV) (x1 : Int32) (x3 : Int32) (x4 : Int32), fX2_become_35 n v x1 x3 x4 = some (xr, v') → G v [(0, .ref (r 7)), (1, .int x1), (3, .int x3), (4, .int x4)] 35 [] := by
  intro n
  induction n with
  | zero => intro v x1 x3 x4 h; rw [fX2_become_35] at h; cases h
  | succ n ih =>
    intro v x1 x3 x4 h
    rw [fX2_become_35] at h
    refine g_iload X dX2_become_35 3 rfl ?_
    refine g_iload_n X dX2_become_37 rfl 2 rfl ?_
    refine g_icmp_ge X 57 dX2_become_38 (by decide) (fun c => ?_) (fun c => ?_)
    · replace h := gTr c h
      exact g_vretR X h dX2_become_57
    · replace h := gF c h
      refine g_aload_n X dX2_become_41 rfl 0 rfl ?_
      refine g_get X fl2_11 hNC_7 (shC_7 _) rfl dX2_become_42 ?_
      refine g_iload_n X dX2_become_45 rfl 1 rfl ?_
      obtain ⟨c4, h⟩ := gGd h
      refine g_aald X (b := r (27 + x1.toNatClampNeg)) (t0 := 2) hNC_14 (shC_14 _) rfl rfl (gin_in c4) rfl dX2_become_46 ?_
      refine g_iload X dX2_become_47 3 rfl ?_
      refine g_iconst X 0 dX2_become_49 (by decide) ?_
      obtain ⟨c, h⟩ := gGd h
      refine g_iast X (shC_srow_lt (gin_lt c4)) (shC_srow (gin_lt c4)) rfl (gin_in c) dX2_become_50 ?_
      refine g_iinc X (x4 + 1) [(4, .int (x4 + 1)), (0, .ref (r 7)), (1, .int x1), (3, .int x3)] dX2_become_51 3 rfl rfl (by decide) rfl ?_
      refine g_goto X 35 dX2_become_54 (by decide) ?_
      refine g_sub X [1, 2, 3, 0] (ls' := [(0, .ref (r 7)), (1, .int x1), (3, .int x3), (4, .int (x4 + 1))]) rfl ?_
      exact ih _ _ _ _  h

set_option maxHeartbeats 4000000 in
set_option maxRecDepth 100000 in
theorem bX2_become_0 {l : Launch} {D : va_G} {cA : Nat → ClassId} {r : Nat → Nat} {G : gG} {xr : Unit} {v' : gV} (X : XC l D cA r RX2 cX2_become 5 none rmX2_become none v' G) (v : gV) (x1 : Int32) (x2 : Int32) (x3 : Int32) (h : fX2_become v x1 x2 x3 = some (xr, v')) : G v [(0, .ref (r 7)), (1, .int x1), (2, .int x2), (3, .int x3)] 0 [] := by
  unfold fX2_become at h
  refine g_iload_n X dX2_become_0 rfl 1 rfl ?_
  obtain ⟨y1, v2, hc3, h⟩ := gB_inv h
  refine g_callS X (st := []) (st' := [.int y1]) kcX2_isSheet ktX2_isSheet kl2_23 (⟨rfl, rfl, by decide, by decide⟩) (mX2_isSheet hc3) rfl rfl (Nat.le_of_ble_eq_true rfl) rfl dX2_become_1 ?_
  refine g_if_eq X 17 dX2_become_4 (by decide) (fun c => ?_) (fun c => ?_)
  · replace h := gTr c h
    exact g_vretR X h dX2_become_17
  · replace h := gF c h
    refine g_iload_n X dX2_become_7 rfl 3 rfl ?_
    refine g_if_lt X 17 dX2_become_8 (by decide) (fun c => ?_) (fun c => ?_)
    · replace h := gTr c h
      exact g_vretR X h dX2_become_17
    · replace h := gF c h
      refine g_iload_n X dX2_become_11 rfl 3 rfl ?_
      refine g_bipush X 40 dX2_become_12 (by decide) ?_
      refine g_icmp_le X 18 dX2_become_14 (by decide) (fun c => ?_) (fun c => ?_)
      · replace h := gTr c h
        refine g_aload_n X dX2_become_18 rfl 0 rfl ?_
        refine g_get X fl2_16 hNC_7 (shC_7 _) rfl dX2_become_19 ?_
        refine g_iload_n X dX2_become_22 rfl 1 rfl ?_
        refine g_iload_n X dX2_become_23 rfl 2 rfl ?_
        obtain ⟨c, h⟩ := gGd h
        refine g_iast X hNC_15 (shC_15) rfl (gin_in c) dX2_become_24 ?_
        refine g_aload_n X dX2_become_25 rfl 0 rfl ?_
        refine g_get X fl2_20 hNC_7 (shC_7 _) rfl dX2_become_26 ?_
        refine g_iload_n X dX2_become_29 rfl 1 rfl ?_
        refine g_iload_n X dX2_become_30 rfl 3 rfl ?_
        obtain ⟨c, h⟩ := gGd h
        refine g_iast X hNC_16 (shC_16) rfl (gin_in c) dX2_become_31 ?_
        refine g_iconst X 0 dX2_become_32 (by decide) ?_
        refine g_istore X (ls' := [(4, .int 0), (0, .ref (r 7)), (1, .int x1), (2, .int x2), (3, .int x3)]) dX2_become_33 (by decide) rfl ?_
        refine g_sub X [1, 2, 4, 0] (ls' := [(0, .ref (r 7)), (1, .int x1), (3, .int x3), (4, .int 0)]) rfl ?_
        exact bX2_become_35 X  _ _ _ _ _  h
      · replace h := gF c h
        exact g_vretR X h dX2_become_17

theorem mX2_become {l : Launch} {D : va_G} {cA : Nat → ClassId} {r : Nat → Nat} {v : gV} {x1 : Int32} {x2 : Int32} {x3 : Int32} {xr : Unit} {v' : gV} (h : fX2_become v x1 x2 x3 = some (xr, v')) : Ct l D (tysC cA) (shC cA r) 50 r (ZC r) yX2_become cX2_become 5 none rmX2_become [.ref (r 7), .int x1, .int x2, .int x3] v none v' := ct_of plX2 ZC_ok (Nat.le_of_ble_eq_true rfl) rfl (fun _ X => bX2_become_0 X v x1 x2 x3 h)

def rmX2_shorten : Room := { frames := 1, cells := 0, slots := 0, locals := 20 }

set_option maxHeartbeats 4000000 in
set_option maxRecDepth 100000 in
theorem bX2_shorten_0 {l : Launch} {D : va_G} {cA : Nat → ClassId} {r : Nat → Nat} {G : gG} {xr : Unit} {v' : gV} (X : XC l D cA r RX2 cX2_shorten 3 none rmX2_shorten none v' G) (v : gV) (x1 : Int32) (x2 : Int32) (h : fX2_shorten v x1 x2 = some (xr, v')) : G v [(0, .ref (r 7)), (1, .int x1), (2, .int x2)] 0 [] := by
  unfold fX2_shorten at h
  refine g_iload_n X dX2_shorten_0 rfl 1 rfl ?_
  obtain ⟨y1, v2, hc3, h⟩ := gB_inv h
  refine g_callS X (st := []) (st' := [.int y1]) kcX2_isSheet ktX2_isSheet kl2_23 (⟨rfl, rfl, by decide, by decide⟩) (mX2_isSheet hc3) rfl rfl (Nat.le_of_ble_eq_true rfl) rfl dX2_shorten_1 ?_
  refine g_if_eq X 28 dX2_shorten_4 (by decide) (fun c => ?_) (fun c => ?_)
  · replace h := gTr c h
    exact g_vretR X h dX2_shorten_28
  · replace h := gF c h
    refine g_iload_n X dX2_shorten_7 rfl 2 rfl ?_
    refine g_if_lt X 28 dX2_shorten_8 (by decide) (fun c => ?_) (fun c => ?_)
    · replace h := gTr c h
      exact g_vretR X h dX2_shorten_28
    · replace h := gF c h
      refine g_iload_n X dX2_shorten_11 rfl 2 rfl ?_
      refine g_aload_n X dX2_shorten_12 rfl 0 rfl ?_
      refine g_get X fl2_20 hNC_7 (shC_7 _) rfl dX2_shorten_13 ?_
      refine g_iload_n X dX2_shorten_16 rfl 1 rfl ?_
      obtain ⟨c, h⟩ := gGd h
      refine g_iald X hNC_16 (shC_16 _) rfl (gin_in c) dX2_shorten_17 ?_
      refine g_icmp_gt X 28 dX2_shorten_18 (by decide) (fun c => ?_) (fun c => ?_)
      · replace h := gTr c h
        exact g_vretR X h dX2_shorten_28
      · replace h := gF c h
        refine g_aload_n X dX2_shorten_21 rfl 0 rfl ?_
        refine g_get X fl2_20 hNC_7 (shC_7 _) rfl dX2_shorten_22 ?_
        refine g_iload_n X dX2_shorten_25 rfl 1 rfl ?_
        refine g_iload_n X dX2_shorten_26 rfl 2 rfl ?_
        obtain ⟨c, h⟩ := gGd h
        refine g_iast X hNC_16 (shC_16) rfl (gin_in c) dX2_shorten_27 ?_
        exact g_vretR X h dX2_shorten_28

theorem mX2_shorten {l : Launch} {D : va_G} {cA : Nat → ClassId} {r : Nat → Nat} {v : gV} {x1 : Int32} {x2 : Int32} {xr : Unit} {v' : gV} (h : fX2_shorten v x1 x2 = some (xr, v')) : Ct l D (tysC cA) (shC cA r) 50 r (ZC r) yX2_shorten cX2_shorten 3 none rmX2_shorten [.ref (r 7), .int x1, .int x2] v none v' := ct_of plX2 ZC_ok (Nat.le_of_ble_eq_true rfl) rfl (fun _ X => bX2_shorten_0 X v x1 x2 h)

def rmX2_get : Room := { frames := 1, cells := 0, slots := 0, locals := 20 }

set_option maxHeartbeats 4000000 in
set_option maxRecDepth 100000 in
theorem bX2_get_0 {l : Launch} {D : va_G} {cA : Nat → ClassId} {r : Nat → Nat} {G : gG} {xr : Int32} {v' : gV} (X : XC l D cA r RX2 cX2_get 3 (some .int) rmX2_get (some (.int xr)) v' G) (v : gV) (x1 : Int32) (x2 : Int32) (h : fX2_get v x1 x2 = some (xr, v')) : G v [(0, .ref (r 7)), (1, .int x1), (2, .int x2)] 0 [] := by
  unfold fX2_get at h
  refine g_iload_n X dX2_get_0 rfl 1 rfl ?_
  obtain ⟨y1, v2, hc3, h⟩ := gB_inv h
  refine g_callS X (st := []) (st' := [.int y1]) kcX2_isSheet ktX2_isSheet kl2_23 (⟨rfl, rfl, by decide, by decide⟩) (mX2_isSheet hc3) rfl rfl (Nat.le_of_ble_eq_true rfl) rfl dX2_get_1 ?_
  refine g_if_eq X 38 dX2_get_4 (by decide) (fun c => ?_) (fun c => ?_)
  · replace h := gTr c h
    refine g_iconst X 0 dX2_get_38 (by decide) ?_
    exact g_iretR X h dX2_get_39
  · replace h := gF c h
    refine g_iload_n X dX2_get_7 rfl 2 rfl ?_
    refine g_if_lt X 38 dX2_get_8 (by decide) (fun c => ?_) (fun c => ?_)
    · replace h := gTr c h
      refine g_iconst X 0 dX2_get_38 (by decide) ?_
      exact g_iretR X h dX2_get_39
    · replace h := gF c h
      refine g_iload_n X dX2_get_11 rfl 2 rfl ?_
      refine g_aload_n X dX2_get_12 rfl 0 rfl ?_
      refine g_get X fl2_20 hNC_7 (shC_7 _) rfl dX2_get_13 ?_
      refine g_iload_n X dX2_get_16 rfl 1 rfl ?_
      obtain ⟨c, h⟩ := gGd h
      refine g_iald X hNC_16 (shC_16 _) rfl (gin_in c) dX2_get_17 ?_
      refine g_icmp_ge X 38 dX2_get_18 (by decide) (fun c => ?_) (fun c => ?_)
      · replace h := gTr c h
        refine g_iconst X 0 dX2_get_38 (by decide) ?_
        exact g_iretR X h dX2_get_39
      · replace h := gF c h
        refine g_iload_n X dX2_get_21 rfl 2 rfl ?_
        refine g_bipush X 40 dX2_get_22 (by decide) ?_
        refine g_icmp_ge X 38 dX2_get_24 (by decide) (fun c => ?_) (fun c => ?_)
        · replace h := gTr c h
          refine g_iconst X 0 dX2_get_38 (by decide) ?_
          exact g_iretR X h dX2_get_39
        · replace h := gF c h
          refine g_aload_n X dX2_get_27 rfl 0 rfl ?_
          refine g_get X fl2_11 hNC_7 (shC_7 _) rfl dX2_get_28 ?_
          refine g_iload_n X dX2_get_31 rfl 1 rfl ?_
          obtain ⟨c4, h⟩ := gGd h
          refine g_aald X (b := r (27 + x1.toNatClampNeg)) (t0 := 2) hNC_14 (shC_14 _) rfl rfl (gin_in c4) rfl dX2_get_32 ?_
          refine g_iload_n X dX2_get_33 rfl 2 rfl ?_
          obtain ⟨c, h⟩ := gGd h
          refine g_iald X (shC_srow_lt (gin_lt c4)) (shC_srow (gin_lt c4) _) rfl (gin_in c) dX2_get_34 ?_
          refine g_goto X 39 dX2_get_35 (by decide) ?_
          exact g_iretR X h dX2_get_39

theorem mX2_get {l : Launch} {D : va_G} {cA : Nat → ClassId} {r : Nat → Nat} {v : gV} {x1 : Int32} {x2 : Int32} {xr : Int32} {v' : gV} (h : fX2_get v x1 x2 = some (xr, v')) : Ct l D (tysC cA) (shC cA r) 50 r (ZC r) yX2_get cX2_get 3 (some .int) rmX2_get [.ref (r 7), .int x1, .int x2] v (some (.int xr)) v' := ct_of plX2 ZC_ok (Nat.le_of_ble_eq_true rfl) rfl (fun _ X => bX2_get_0 X v x1 x2 h)

def rmX2_put : Room := { frames := 1, cells := 0, slots := 0, locals := 20 }

set_option maxHeartbeats 4000000 in
set_option maxRecDepth 100000 in
theorem bX2_put_0 {l : Launch} {D : va_G} {cA : Nat → ClassId} {r : Nat → Nat} {G : gG} {xr : Unit} {v' : gV} (X : XC l D cA r RX2 cX2_put 4 none rmX2_put none v' G) (v : gV) (x1 : Int32) (x2 : Int32) (x3 : Int32) (h : fX2_put v x1 x2 x3 = some (xr, v')) : G v [(0, .ref (r 7)), (1, .int x1), (2, .int x2), (3, .int x3)] 0 [] := by
  unfold fX2_put at h
  refine g_iload_n X dX2_put_0 rfl 1 rfl ?_
  obtain ⟨y1, v2, hc3, h⟩ := gB_inv h
  refine g_callS X (st := []) (st' := [.int y1]) kcX2_isSheet ktX2_isSheet kl2_23 (⟨rfl, rfl, by decide, by decide⟩) (mX2_isSheet hc3) rfl rfl (Nat.le_of_ble_eq_true rfl) rfl dX2_put_1 ?_
  refine g_if_eq X 65 dX2_put_4 (by decide) (fun c => ?_) (fun c => ?_)
  · replace h := gTr c h
    exact g_vretR X h dX2_put_65
  · replace h := gF c h
    refine g_iload_n X dX2_put_7 rfl 2 rfl ?_
    refine g_if_lt X 65 dX2_put_8 (by decide) (fun c => ?_) (fun c => ?_)
    · replace h := gTr c h
      exact g_vretR X h dX2_put_65
    · replace h := gF c h
      refine g_iload_n X dX2_put_11 rfl 2 rfl ?_
      refine g_aload_n X dX2_put_12 rfl 0 rfl ?_
      refine g_get X fl2_20 hNC_7 (shC_7 _) rfl dX2_put_13 ?_
      refine g_iload_n X dX2_put_16 rfl 1 rfl ?_
      obtain ⟨c, h⟩ := gGd h
      refine g_iald X hNC_16 (shC_16 _) rfl (gin_in c) dX2_put_17 ?_
      refine g_icmp_ge X 65 dX2_put_18 (by decide) (fun c => ?_) (fun c => ?_)
      · replace h := gTr c h
        exact g_vretR X h dX2_put_65
      · replace h := gF c h
        refine g_iload_n X dX2_put_21 rfl 2 rfl ?_
        refine g_bipush X 40 dX2_put_22 (by decide) ?_
        refine g_icmp_ge X 65 dX2_put_24 (by decide) (fun c => ?_) (fun c => ?_)
        · replace h := gTr c h
          exact g_vretR X h dX2_put_65
        · replace h := gF c h
          refine g_aload_n X dX2_put_27 rfl 0 rfl ?_
          refine g_get X fl2_11 hNC_7 (shC_7 _) rfl dX2_put_28 ?_
          refine g_iload_n X dX2_put_31 rfl 1 rfl ?_
          obtain ⟨c4, h⟩ := gGd h
          refine g_aald X (b := r (27 + x1.toNatClampNeg)) (t0 := 2) hNC_14 (shC_14 _) rfl rfl (gin_in c4) rfl dX2_put_32 ?_
          refine g_iload_n X dX2_put_33 rfl 2 rfl ?_
          refine g_aload_n X dX2_put_34 rfl 0 rfl ?_
          refine g_get X fl2_16 hNC_7 (shC_7 _) rfl dX2_put_35 ?_
          refine g_iload_n X dX2_put_38 rfl 1 rfl ?_
          obtain ⟨c, h⟩ := gGd h
          refine g_iald X hNC_15 (shC_15 _) rfl (gin_in c) dX2_put_39 ?_
          refine g_if_ne X 48 dX2_put_40 (by decide) (fun c => ?_) (fun c => ?_)
          · replace h := gF c h
            refine g_aload_n X dX2_put_48 rfl 0 rfl ?_
            refine g_get X fl2_16 hNC_7 (shC_7 _) rfl dX2_put_49 ?_
            refine g_iload_n X dX2_put_52 rfl 1 rfl ?_
            obtain ⟨c, h⟩ := gGd h
            refine g_iald X hNC_15 (shC_15 _) rfl (gin_in c) dX2_put_53 ?_
            refine g_iconst X 1 dX2_put_54 (by decide) ?_
            refine g_icmp_ne X 63 dX2_put_55 (by decide) (fun c => ?_) (fun c => ?_)
            · replace h := gF c h
              refine g_iload_n X dX2_put_63 rfl 3 rfl ?_
              obtain ⟨c, h⟩ := gGd h
              refine g_iast X (shC_srow_lt (gin_lt c4)) (shC_srow (gin_lt c4)) rfl (gin_in c) dX2_put_64 ?_
              exact g_vretR X h dX2_put_65
            · replace h := gTr c h
              refine g_iload_n X dX2_put_58 rfl 3 rfl ?_
              refine g_i2s X dX2_put_59 ?_
              refine g_goto X 64 dX2_put_60 (by decide) ?_
              obtain ⟨c, h⟩ := gGd h
              refine g_iast X (shC_srow_lt (gin_lt c4)) (shC_srow (gin_lt c4)) rfl (gin_in c) dX2_put_64 ?_
              exact g_vretR X h dX2_put_65
          · replace h := gTr c h
            refine g_iload_n X dX2_put_43 rfl 3 rfl ?_
            refine g_i2b X dX2_put_44 ?_
            refine g_goto X 64 dX2_put_45 (by decide) ?_
            obtain ⟨c, h⟩ := gGd h
            refine g_iast X (shC_srow_lt (gin_lt c4)) (shC_srow (gin_lt c4)) rfl (gin_in c) dX2_put_64 ?_
            exact g_vretR X h dX2_put_65

theorem mX2_put {l : Launch} {D : va_G} {cA : Nat → ClassId} {r : Nat → Nat} {v : gV} {x1 : Int32} {x2 : Int32} {x3 : Int32} {xr : Unit} {v' : gV} (h : fX2_put v x1 x2 x3 = some (xr, v')) : Ct l D (tysC cA) (shC cA r) 50 r (ZC r) yX2_put cX2_put 4 none rmX2_put [.ref (r 7), .int x1, .int x2, .int x3] v none v' := ct_of plX2 ZC_ok (Nat.le_of_ble_eq_true rfl) rfl (fun _ X => bX2_put_0 X v x1 x2 x3 h)

def rmX4_put : Room := { frames := 0, cells := 0, slots := 0, locals := 0 }

set_option maxHeartbeats 4000000 in
set_option maxRecDepth 100000 in
theorem bX4_put_0 {l : Launch} {D : va_G} {cA : Nat → ClassId} {r : Nat → Nat} {G : gG} {xr : Unit} {v' : gV} (X : XC l D cA r RX4 cX4_put 2 none rmX4_put none v' G) (v : gV) (t0 : Nat) (x1 : Int32) (ht0 : t0 < 6) (h : fX4_put v t0 x1 = some (xr, v')) : G v [(0, .ref (r (31 + t0))), (1, .int x1)] 0 [] := by
  unfold fX4_put at h
  refine g_aload_n X dX4_put_0 rfl 0 rfl ?_
  refine g_get X fl4_21 (shC_text_lt ht0) (shC_text ht0 _) rfl dX4_put_1 ?_
  refine g_if_lt X 39 dX4_put_4 (by decide) (fun c => ?_) (fun c => ?_)
  · replace h := gTr c h
    exact g_vretR X h dX4_put_39
  · replace h := gF c h
    refine g_aload_n X dX4_put_7 rfl 0 rfl ?_
    refine g_get X fl4_21 (shC_text_lt ht0) (shC_text ht0 _) rfl dX4_put_8 ?_
    refine g_aload_n X dX4_put_11 rfl 0 rfl ?_
    refine g_get X fl4_9 (shC_text_lt ht0) (shC_text ht0 _) rfl dX4_put_12 ?_
    refine g_alen X (t0 := 0) 160 (shC_codes_lt ht0) (shC_codes ht0 _) rfl rfl dX4_put_15 ?_
    refine g_icmp_ge X 39 dX4_put_16 (by decide) (fun c => ?_) (fun c => ?_)
    · replace h := gTr c h
      exact g_vretR X h dX4_put_39
    · replace h := gF c h
      refine g_aload_n X dX4_put_19 rfl 0 rfl ?_
      refine g_get X fl4_9 (shC_text_lt ht0) (shC_text ht0 _) rfl dX4_put_20 ?_
      refine g_aload_n X dX4_put_23 rfl 0 rfl ?_
      refine g_get X fl4_21 (shC_text_lt ht0) (shC_text ht0 _) rfl dX4_put_24 ?_
      refine g_iload_n X dX4_put_27 rfl 1 rfl ?_
      obtain ⟨c, h⟩ := gGd h
      refine g_iast X (shC_codes_lt ht0) (shC_codes ht0) rfl (gin_in c) dX4_put_28 ?_
      refine g_aload_n X dX4_put_29 rfl 0 rfl ?_
      refine g_dup X dX4_put_30 rfl ?_
      refine g_get X fl4_21 (shC_text_lt ht0) (shC_text ht0 _) rfl dX4_put_31 ?_
      refine g_iconst X 1 dX4_put_34 (by decide) ?_
      refine g_iadd X dX4_put_35 ?_
      refine g_put X (fsC4 r t0) fp4_21 (shC_text_lt ht0) (shC_text ht0) (fun _ => rfl) (Nat.le_of_ble_eq_true rfl) dX4_put_36 ?_
      exact g_vretR X h dX4_put_39

theorem mX4_put {l : Launch} {D : va_G} {cA : Nat → ClassId} {r : Nat → Nat} {v : gV} {t0 : Nat} {x1 : Int32} {xr : Unit} {v' : gV} (ht0 : t0 < 6) (h : fX4_put v t0 x1 = some (xr, v')) : Ct l D (tysC cA) (shC cA r) 50 r (ZC r) yX4_put cX4_put 2 none rmX4_put [.ref (r (31 + t0)), .int x1] v none v' := ct_of plX4 ZC_ok (Nat.le_of_ble_eq_true rfl) rfl (fun _ X => bX4_put_0 X v t0 x1 ht0 h)

def rmX4_endPart : Room := { frames := 0, cells := 0, slots := 0, locals := 0 }

set_option maxHeartbeats 4000000 in
set_option maxRecDepth 100000 in
theorem bX4_endPart_0 {l : Launch} {D : va_G} {cA : Nat → ClassId} {r : Nat → Nat} {G : gG} {xr : Unit} {v' : gV} (X : XC l D cA r RX4 cX4_endPart 2 none rmX4_endPart none v' G) (v : gV) (t0 : Nat) (x1 : Int32) (ht0 : t0 < 6) (h : fX4_endPart v t0 x1 = some (xr, v')) : G v [(0, .ref (r (31 + t0))), (1, .int x1)] 0 [] := by
  unfold fX4_endPart at h
  refine g_iload_n X dX4_endPart_0 rfl 1 rfl ?_
  refine g_if_lt X 19 dX4_endPart_1 (by decide) (fun c => ?_) (fun c => ?_)
  · replace h := gTr c h
    exact g_vretR X h dX4_endPart_19
  · replace h := gF c h
    refine g_iload_n X dX4_endPart_4 rfl 1 rfl ?_
    refine g_iconst X 3 dX4_endPart_5 (by decide) ?_
    refine g_icmp_ge X 19 dX4_endPart_6 (by decide) (fun c => ?_) (fun c => ?_)
    · replace h := gTr c h
      exact g_vretR X h dX4_endPart_19
    · replace h := gF c h
      refine g_aload_n X dX4_endPart_9 rfl 0 rfl ?_
      refine g_get X fl4_15 (shC_text_lt ht0) (shC_text ht0 _) rfl dX4_endPart_10 ?_
      refine g_iload_n X dX4_endPart_13 rfl 1 rfl ?_
      refine g_aload_n X dX4_endPart_14 rfl 0 rfl ?_
      refine g_get X fl4_21 (shC_text_lt ht0) (shC_text ht0 _) rfl dX4_endPart_15 ?_
      obtain ⟨c, h⟩ := gGd h
      refine g_iast X (shC_ends_lt ht0) (shC_ends ht0) rfl (gin_in c) dX4_endPart_18 ?_
      exact g_vretR X h dX4_endPart_19

theorem mX4_endPart {l : Launch} {D : va_G} {cA : Nat → ClassId} {r : Nat → Nat} {v : gV} {t0 : Nat} {x1 : Int32} {xr : Unit} {v' : gV} (ht0 : t0 < 6) (h : fX4_endPart v t0 x1 = some (xr, v')) : Ct l D (tysC cA) (shC cA r) 50 r (ZC r) yX4_endPart cX4_endPart 2 none rmX4_endPart [.ref (r (31 + t0)), .int x1] v none v' := ct_of plX4 ZC_ok (Nat.le_of_ble_eq_true rfl) rfl (fun _ X => bX4_endPart_0 X v t0 x1 ht0 h)

def rmX4_becomeConstant : Room := { frames := 1, cells := 0, slots := 0, locals := 21 }

set_option maxHeartbeats 4000000 in
set_option maxRecDepth 100000 in
theorem bX4_becomeConstant_0 {l : Launch} {D : va_G} {cA : Nat → ClassId} {r : Nat → Nat} {G : gG} {xr : Unit} {v' : gV} (X : XC l D cA r RX4 cX4_becomeConstant 4 none rmX4_becomeConstant none v' G) (v : gV) (t0 : Nat) (x1 : Int32) (x2 : Int32) (x3 : Int32) (ht0 : t0 < 6) (h : fX4_becomeConstant v t0 x1 x2 x3 = some (xr, v')) : G v [(0, .ref (r (31 + t0))), (1, .int x1), (2, .int x2), (3, .int x3)] 0 [] := by
  unfold fX4_becomeConstant at h
  refine g_aload_n X dX4_becomeConstant_0 rfl 0 rfl ?_
  refine g_iconst X 0 dX4_becomeConstant_1 (by decide) ?_
  refine g_put X (fsC4 r t0) fp4_21 (shC_text_lt ht0) (shC_text ht0) (fun _ => rfl) (Nat.le_of_ble_eq_true rfl) dX4_becomeConstant_2 ?_
  refine g_aload_n X dX4_becomeConstant_5 rfl 0 rfl ?_
  refine g_iload_n X dX4_becomeConstant_6 rfl 1 rfl ?_
  obtain ⟨y1, v2, hc3, h⟩ := gB_inv h
  refine g_callV X (st := []) (st' := []) kcX4_put kvX4_put kl4_25 (⟨rfl, rfl, by decide, by decide⟩) (mX4_put ht0 hc3) (shC_text_lt ht0) (shC_text ht0 _) rfl rfl rfl (Nat.le_of_ble_eq_true rfl) rfl dX4_becomeConstant_7 ?_
  refine g_aload_n X dX4_becomeConstant_10 rfl 0 rfl ?_
  refine g_iconst X 0 dX4_becomeConstant_11 (by decide) ?_
  obtain ⟨y4, v5, hc6, h⟩ := gB_inv h
  refine g_callV X (st := []) (st' := []) kcX4_endPart kvX4_endPart kl4_29 (⟨rfl, rfl, by decide, by decide⟩) (mX4_endPart ht0 hc6) (shC_text_lt ht0) (shC_text ht0 _) rfl rfl rfl (Nat.le_of_ble_eq_true rfl) rfl dX4_becomeConstant_12 ?_
  refine g_aload_n X dX4_becomeConstant_15 rfl 0 rfl ?_
  refine g_iload_n X dX4_becomeConstant_16 rfl 2 rfl ?_
  obtain ⟨y7, v8, hc9, h⟩ := gB_inv h
  refine g_callV X (st := []) (st' := []) kcX4_put kvX4_put kl4_25 (⟨rfl, rfl, by decide, by decide⟩) (mX4_put ht0 hc9) (shC_text_lt ht0) (shC_text ht0 _) rfl rfl rfl (Nat.le_of_ble_eq_true rfl) rfl dX4_becomeConstant_17 ?_
  refine g_aload_n X dX4_becomeConstant_20 rfl 0 rfl ?_
  refine g_iconst X 1 dX4_becomeConstant_21 (by decide) ?_
  obtain ⟨y10, v11, hc12, h⟩ := gB_inv h
  refine g_callV X (st := []) (st' := []) kcX4_endPart kvX4_endPart kl4_29 (⟨rfl, rfl, by decide, by decide⟩) (mX4_endPart ht0 hc12) (shC_text_lt ht0) (shC_text ht0 _) rfl rfl rfl (Nat.le_of_ble_eq_true rfl) rfl dX4_becomeConstant_22 ?_
  refine g_aload_n X dX4_becomeConstant_25 rfl 0 rfl ?_
  refine g_iload_n X dX4_becomeConstant_26 rfl 3 rfl ?_
  obtain ⟨y13, v14, hc15, h⟩ := gB_inv h
  refine g_callV X (st := []) (st' := []) kcX4_put kvX4_put kl4_25 (⟨rfl, rfl, by decide, by decide⟩) (mX4_put ht0 hc15) (shC_text_lt ht0) (shC_text ht0 _) rfl rfl rfl (Nat.le_of_ble_eq_true rfl) rfl dX4_becomeConstant_27 ?_
  refine g_aload_n X dX4_becomeConstant_30 rfl 0 rfl ?_
  refine g_iconst X 2 dX4_becomeConstant_31 (by decide) ?_
  obtain ⟨y16, v17, hc18, h⟩ := gB_inv h
  refine g_callV X (st := []) (st' := []) kcX4_endPart kvX4_endPart kl4_29 (⟨rfl, rfl, by decide, by decide⟩) (mX4_endPart ht0 hc18) (shC_text_lt ht0) (shC_text ht0 _) rfl rfl rfl (Nat.le_of_ble_eq_true rfl) rfl dX4_becomeConstant_32 ?_
  exact g_vretR X h dX4_becomeConstant_35

theorem mX4_becomeConstant {l : Launch} {D : va_G} {cA : Nat → ClassId} {r : Nat → Nat} {v : gV} {t0 : Nat} {x1 : Int32} {x2 : Int32} {x3 : Int32} {xr : Unit} {v' : gV} (ht0 : t0 < 6) (h : fX4_becomeConstant v t0 x1 x2 x3 = some (xr, v')) : Ct l D (tysC cA) (shC cA r) 50 r (ZC r) yX4_becomeConstant cX4_becomeConstant 4 none rmX4_becomeConstant [.ref (r (31 + t0)), .int x1, .int x2, .int x3] v none v' := ct_of plX4 ZC_ok (Nat.le_of_ble_eq_true rfl) rfl (fun _ X => bX4_becomeConstant_0 X v t0 x1 x2 x3 ht0 h)

def rmX4_ofTwo : Room := { frames := 0, cells := 0, slots := 0, locals := 0 }

set_option maxHeartbeats 4000000 in
set_option maxRecDepth 100000 in
theorem bX4_ofTwo_96 {l : Launch} {D : va_G} {cA : Nat → ClassId} {r : Nat → Nat} {G : gG} {xr : Int32} {v' : gV} (X : XC l D cA r RX4 cX4_ofTwo 3 (some .int) rmX4_ofTwo (some (.int xr)) v' G) (v : gV)  (h : fX4_ofTwo_96 v  = some (xr, v')) : G v [] 96 [] := by
  unfold fX4_ofTwo_96 at h
  refine g_iconst X 1 dX4_ofTwo_96 (by decide) ?_
  refine g_goto X 101 dX4_ofTwo_97 (by decide) ?_
  exact g_iretR X h dX4_ofTwo_101

set_option maxHeartbeats 4000000 in
set_option maxRecDepth 100000 in
theorem bX4_ofTwo_0 {l : Launch} {D : va_G} {cA : Nat → ClassId} {r : Nat → Nat} {G : gG} {xr : Int32} {v' : gV} (X : XC l D cA r RX4 cX4_ofTwo 3 (some .int) rmX4_ofTwo (some (.int xr)) v' G) (v : gV) (x0 : Int32) (x1 : Int32) (x2 : Int32) (h : fX4_ofTwo v x0 x1 x2 = some (xr, v')) : G v [(0, .int x0), (1, .int x1), (2, .int x2)] 0 [] := by
  unfold fX4_ofTwo at h
  refine g_iload_n X dX4_ofTwo_0 rfl 0 rfl ?_
  by_cases c : x0 = 20002
  · replace h := gTr c h
    refine g_tableIn X 40 dX4_ofTwo_1 (by rw [c]; decide) (by rw [c]; decide) (by rw [c]; rfl) (by decide) ?_
    refine g_iload_n X dX4_ofTwo_40 rfl 1 rfl ?_
    refine g_iload_n X dX4_ofTwo_41 rfl 2 rfl ?_
    refine g_imul X dX4_ofTwo_42 ?_
    exact g_iretR X h dX4_ofTwo_43
  · replace h := gF c h
    have n20002 : (x0).toInt ≠ 20002 := fun q => c (Int32.toInt_inj.mp (q.trans (by decide)))
    clear c
    by_cases c : x0 = 20003
    · replace h := gTr c h
      refine g_tableIn X 44 dX4_ofTwo_1 (by rw [c]; decide) (by rw [c]; decide) (by rw [c]; rfl) (by decide) ?_
      refine g_iload_n X dX4_ofTwo_44 rfl 1 rfl ?_
      refine g_iload_n X dX4_ofTwo_45 rfl 2 rfl ?_
      refine g_iadd X dX4_ofTwo_46 ?_
      exact g_iretR X h dX4_ofTwo_47
    · replace h := gF c h
      have n20003 : (x0).toInt ≠ 20003 := fun q => c (Int32.toInt_inj.mp (q.trans (by decide)))
      clear c
      by_cases c : x0 = 20004
      · replace h := gTr c h
        refine g_tableIn X 48 dX4_ofTwo_1 (by rw [c]; decide) (by rw [c]; decide) (by rw [c]; rfl) (by decide) ?_
        refine g_iload_n X dX4_ofTwo_48 rfl 1 rfl ?_
        refine g_iload_n X dX4_ofTwo_49 rfl 2 rfl ?_
        refine g_isub X dX4_ofTwo_50 ?_
        exact g_iretR X h dX4_ofTwo_51
      · replace h := gF c h
        have n20004 : (x0).toInt ≠ 20004 := fun q => c (Int32.toInt_inj.mp (q.trans (by decide)))
        clear c
        by_cases c : x0 = 20005
        · replace h := gTr c h
          refine g_tableIn X 52 dX4_ofTwo_1 (by rw [c]; decide) (by rw [c]; decide) (by rw [c]; rfl) (by decide) ?_
          refine g_iload_n X dX4_ofTwo_52 rfl 1 rfl ?_
          refine g_iload_n X dX4_ofTwo_53 rfl 2 rfl ?_
          refine g_icmp_ge X 61 dX4_ofTwo_54 (by decide) (fun c => ?_) (fun c => ?_)
          · replace h := gTr c h
            refine g_iconst X 0 dX4_ofTwo_61 (by decide) ?_
            exact g_iretR X h dX4_ofTwo_62
          · replace h := gF c h
            refine g_iconst X 1 dX4_ofTwo_57 (by decide) ?_
            refine g_goto X 62 dX4_ofTwo_58 (by decide) ?_
            exact g_iretR X h dX4_ofTwo_62
        · replace h := gF c h
          have n20005 : (x0).toInt ≠ 20005 := fun q => c (Int32.toInt_inj.mp (q.trans (by decide)))
          clear c
          by_cases c : x0 = 20006
          · replace h := gTr c h
            refine g_tableIn X 63 dX4_ofTwo_1 (by rw [c]; decide) (by rw [c]; decide) (by rw [c]; rfl) (by decide) ?_
            refine g_iload_n X dX4_ofTwo_63 rfl 1 rfl ?_
            refine g_iload_n X dX4_ofTwo_64 rfl 2 rfl ?_
            refine g_icmp_ne X 72 dX4_ofTwo_65 (by decide) (fun c => ?_) (fun c => ?_)
            · replace h := gF c h
              refine g_iconst X 0 dX4_ofTwo_72 (by decide) ?_
              exact g_iretR X h dX4_ofTwo_73
            · replace h := gTr c h
              refine g_iconst X 1 dX4_ofTwo_68 (by decide) ?_
              refine g_goto X 73 dX4_ofTwo_69 (by decide) ?_
              exact g_iretR X h dX4_ofTwo_73
          · replace h := gF c h
            have n20006 : (x0).toInt ≠ 20006 := fun q => c (Int32.toInt_inj.mp (q.trans (by decide)))
            clear c
            by_cases c : x0 = 20007
            · replace h := gTr c h
              refine g_tableIn X 74 dX4_ofTwo_1 (by rw [c]; decide) (by rw [c]; decide) (by rw [c]; rfl) (by decide) ?_
              refine g_iload_n X dX4_ofTwo_74 rfl 1 rfl ?_
              refine g_if_eq X 86 dX4_ofTwo_75 (by decide) (fun c => ?_) (fun c => ?_)
              · replace h := gTr c h
                refine g_iconst X 0 dX4_ofTwo_86 (by decide) ?_
                exact g_iretR X h dX4_ofTwo_87
              · replace h := gF c h
                refine g_iload_n X dX4_ofTwo_78 rfl 2 rfl ?_
                refine g_if_eq X 86 dX4_ofTwo_79 (by decide) (fun c => ?_) (fun c => ?_)
                · replace h := gTr c h
                  refine g_iconst X 0 dX4_ofTwo_86 (by decide) ?_
                  exact g_iretR X h dX4_ofTwo_87
                · replace h := gF c h
                  refine g_iconst X 1 dX4_ofTwo_82 (by decide) ?_
                  refine g_goto X 87 dX4_ofTwo_83 (by decide) ?_
                  exact g_iretR X h dX4_ofTwo_87
            · replace h := gF c h
              have n20007 : (x0).toInt ≠ 20007 := fun q => c (Int32.toInt_inj.mp (q.trans (by decide)))
              clear c
              refine g_tableOut X 88 dX4_ofTwo_1 (by omega) (by decide) ?_
              refine g_iload_n X dX4_ofTwo_88 rfl 1 rfl ?_
              refine g_if_ne X 96 dX4_ofTwo_89 (by decide) (fun c => ?_) (fun c => ?_)
              · replace h := gF c h
                refine g_sub X [] (ls' := []) rfl ?_
                exact bX4_ofTwo_96 X  _   h
              · replace h := gTr c h
                refine g_iload_n X dX4_ofTwo_92 rfl 2 rfl ?_
                refine g_if_eq X 100 dX4_ofTwo_93 (by decide) (fun c => ?_) (fun c => ?_)
                · replace h := gTr c h
                  refine g_iconst X 0 dX4_ofTwo_100 (by decide) ?_
                  exact g_iretR X h dX4_ofTwo_101
                · replace h := gF c h
                  refine g_sub X [] (ls' := []) rfl ?_
                  exact bX4_ofTwo_96 X  _   h

theorem mX4_ofTwo {l : Launch} {D : va_G} {cA : Nat → ClassId} {r : Nat → Nat} {v : gV} {x0 : Int32} {x1 : Int32} {x2 : Int32} {xr : Int32} {v' : gV} (h : fX4_ofTwo v x0 x1 x2 = some (xr, v')) : Ct l D (tysC cA) (shC cA r) 50 r (ZC r) yX4_ofTwo cX4_ofTwo 3 (some .int) rmX4_ofTwo [.int x0, .int x1, .int x2] v (some (.int xr)) v' := ct_of plX4 ZC_ok (Nat.le_of_ble_eq_true rfl) rfl (fun _ X => bX4_ofTwo_0 X v x0 x1 x2 h)

def rmX4_operand : Room := { frames := 0, cells := 0, slots := 0, locals := 0 }

set_option maxHeartbeats 4000000 in
set_option maxRecDepth 100000 in
theorem bX4_operand_0 {l : Launch} {D : va_G} {cA : Nat → ClassId} {r : Nat → Nat} {G : gG} {xr : Int32} {v' : gV} (X : XC l D cA r RX4 cX4_operand 3 (some .int) rmX4_operand (some (.int xr)) v' G) (v : gV) (x0 : Int32) (a1 : Nat) (ha1 : gRow a1) (h : fX4_operand v x0 a1 = some (xr, v')) : G v [(0, .int x0), (1, .ref (r a1))] 0 [] := by
  unfold fX4_operand at h
  refine g_iload_n X dX4_operand_0 rfl 0 rfl ?_
  refine g_sipush X 10000 dX4_operand_1 (by decide) ?_
  refine g_icmp_ge X 9 dX4_operand_4 (by decide) (fun c => ?_) (fun c => ?_)
  · replace h := gTr c h
    refine g_iload_n X dX4_operand_9 rfl 0 rfl ?_
    refine g_sipush X 10000 dX4_operand_10 (by decide) ?_
    refine g_isub X dX4_operand_13 ?_
    refine g_istore_n X (ls' := [(2, .int (x0 - 10000)), (0, .int x0), (1, .ref (r a1))]) dX4_operand_14 rfl (by decide) rfl ?_
    refine g_iload_n X dX4_operand_15 rfl 0 rfl ?_
    refine g_if_lt X 31 dX4_operand_16 (by decide) (fun c => ?_) (fun c => ?_)
    · replace h := gTr c h
      refine g_iconst X 0 dX4_operand_31 (by decide) ?_
      exact g_iretR X h dX4_operand_32
    · replace h := gF c h
      refine g_iload_n X dX4_operand_19 rfl 0 rfl ?_
      refine g_aload_n X dX4_operand_20 rfl 2 rfl ?_
      refine g_alen X (t0 := 0) 7 (gRow_lt ha1) (shC_row ha1 _) rfl rfl dX4_operand_21 ?_
      refine g_icmp_ge X 31 dX4_operand_22 (by decide) (fun c => ?_) (fun c => ?_)
      · replace h := gTr c h
        refine g_iconst X 0 dX4_operand_31 (by decide) ?_
        exact g_iretR X h dX4_operand_32
      · replace h := gF c h
        refine g_aload_n X dX4_operand_25 rfl 2 rfl ?_
        refine g_iload_n X dX4_operand_26 rfl 0 rfl ?_
        obtain ⟨c, h⟩ := gGd h
        refine g_iald X (gRow_lt ha1) (shC_row ha1 _) rfl (gin_in c) dX4_operand_27 ?_
        refine g_goto X 32 dX4_operand_28 (by decide) ?_
        exact g_iretR X h dX4_operand_32
  · replace h := gF c h
    refine g_iload_n X dX4_operand_7 rfl 0 rfl ?_
    exact g_iretR X h dX4_operand_8

theorem mX4_operand {l : Launch} {D : va_G} {cA : Nat → ClassId} {r : Nat → Nat} {v : gV} {x0 : Int32} {a1 : Nat} {xr : Int32} {v' : gV} (ha1 : gRow a1) (h : fX4_operand v x0 a1 = some (xr, v')) : Ct l D (tysC cA) (shC cA r) 50 r (ZC r) yX4_operand cX4_operand 3 (some .int) rmX4_operand [.int x0, .ref (r a1)] v (some (.int xr)) v' := ct_of plX4 ZC_ok (Nat.le_of_ble_eq_true rfl) rfl (fun _ X => bX4_operand_0 X v x0 a1 ha1 h)

def rmX4_reckon : Room := { frames := 1, cells := 0, slots := 0, locals := 22 }

set_option maxHeartbeats 4000000 in
set_option maxRecDepth 100000 in
theorem bX4_reckon_212 {l : Launch} {D : va_G} {cA : Nat → ClassId} {r : Nat → Nat} {G : gG} {xr : Int32} {v' : gV} {k34 : gV → Nat → Int32 → Nat → Int32 → Int32 → Option (Int32 × gV)} (X : XC l D cA r RX4 cX4_reckon 8 (some .int) rmX4_reckon (some (.int xr)) v' G) (K34 : ∀ (v : gV) (ix0 : Nat) (x1 : Int32) (ix2 : Nat) (x4 : Int32) (x5 : Int32), ix0 < 6 → gRow ix2 → k34 v ix0 x1 ix2 x4 x5 = some (xr, v') → G v [(0, .ref (r (31 + ix0))), (1, .int x1), (2, .ref (r ix2)), (4, .int x4), (5, .int x5)] 34 []) (v : gV) (ix0 : Nat) (x1 : Int32) (ix2 : Nat) (x4 : Int32) (x5 : Int32) (hix0 : ix0 < 6) (hix2 : gRow ix2) (h : fX4_reckon_212 k34 v ix0 x1 ix2 x4 x5 = some (xr, v')) : G v [(0, .ref (r (31 + ix0))), (1, .int x1), (2, .ref (r ix2)), (4, .int x4), (5, .int x5)] 212 [] := by
  unfold fX4_reckon_212 at h
  refine g_iinc X (x5 + 1) [(5, .int (x5 + 1)), (0, .ref (r (31 + ix0))), (1, .int x1), (2, .ref (r ix2)), (4, .int x4)] dX4_reckon_212 4 rfl rfl (by decide) rfl ?_
  refine g_goto X 34 dX4_reckon_215 (by decide) ?_
  refine g_sub X [1, 2, 3, 4, 0] (ls' := [(0, .ref (r (31 + ix0))), (1, .int x1), (2, .ref (r ix2)), (4, .int x4), (5, .int (x5 + 1))]) rfl ?_
  exact K34 _ _ _ _ _ _ hix0 hix2 h

set_option maxHeartbeats 4000000 in
set_option maxRecDepth 100000 in
theorem bX4_reckon_167 {l : Launch} {D : va_G} {cA : Nat → ClassId} {r : Nat → Nat} {G : gG} {xr : Int32} {v' : gV} {k34 : gV → Nat → Int32 → Nat → Int32 → Int32 → Option (Int32 × gV)} (X : XC l D cA r RX4 cX4_reckon 8 (some .int) rmX4_reckon (some (.int xr)) v' G) (K34 : ∀ (v : gV) (ix0 : Nat) (x1 : Int32) (ix2 : Nat) (x4 : Int32) (x5 : Int32), ix0 < 6 → gRow ix2 → k34 v ix0 x1 ix2 x4 x5 = some (xr, v') → G v [(0, .ref (r (31 + ix0))), (1, .int x1), (2, .ref (r ix2)), (4, .int x4), (5, .int x5)] 34 []) (v : gV) (ix0 : Nat) (x1 : Int32) (ix2 : Nat) (x4 : Int32) (x5 : Int32) (s1 : Int32) (s2 : Int32) (hix0 : ix0 < 6) (hix2 : gRow ix2) (h : fX4_reckon_167 k34 v ix0 x1 ix2 x4 x5 s1 s2 = some (xr, v')) : G v [(0, .ref (r (31 + ix0))), (1, .int x1), (2, .ref (r ix2)), (4, .int x4), (5, .int x5)] 167 [.int s2, .int s1, .ref (r 49)] := by
  unfold fX4_reckon_167 at h
  obtain ⟨c, h⟩ := gGd h
  refine g_iast X hNC_49 (shC_49) rfl (gin_in c) dX4_reckon_167 ?_
  refine g_goto X 212 dX4_reckon_168 (by decide) ?_
  exact bX4_reckon_212 X K34 _ _ _ _ _ _ hix0 hix2 h

set_option maxHeartbeats 4000000 in
set_option maxRecDepth 100000 in
theorem bX4_reckon_218 {l : Launch} {D : va_G} {cA : Nat → ClassId} {r : Nat → Nat} {G : gG} {xr : Int32} {v' : gV} (X : XC l D cA r RX4 cX4_reckon 8 (some .int) rmX4_reckon (some (.int xr)) v' G) (v : gV) (ix0 : Nat) (x4 : Int32) (hix0 : ix0 < 6) (h : fX4_reckon_218 v ix0 x4 = some (xr, v')) : G v [(0, .ref (r (31 + ix0))), (4, .int x4)] 218 [] := by
  unfold fX4_reckon_218 at h
  refine g_iload X dX4_reckon_218 1 rfl ?_
  refine g_if_le X 232 dX4_reckon_220 (by decide) (fun c => ?_) (fun c => ?_)
  · replace h := gTr c h
    refine g_iconst X 0 dX4_reckon_232 (by decide) ?_
    exact g_iretR X h dX4_reckon_233
  · replace h := gF c h
    refine g_aload_n X dX4_reckon_223 rfl 0 rfl ?_
    refine g_get X fl4_18 (shC_text_lt hix0) (shC_text hix0 _) rfl dX4_reckon_224 ?_
    refine g_iconst X 0 dX4_reckon_227 (by decide) ?_
    refine g_ialdK X 0 hNC_49 (shC_49 _) rfl vin_0_40 dX4_reckon_228 ?_
    refine g_goto X 233 dX4_reckon_229 (by decide) ?_
    exact g_iretR X h dX4_reckon_233

set_option maxHeartbeats 4000000 in
set_option maxRecDepth 100000 in
theorem bX4_reckon_34 {l : Launch} {D : va_G} {cA : Nat → ClassId} {r : Nat → Nat} {G : gG} {xr : Int32} {v' : gV} (X : XC l D cA r RX4 cX4_reckon 8 (some .int) rmX4_reckon (some (.int xr)) v' G) : ∀ (n : Nat) (v : gV) (ix0 : Nat) (x1 : Int32) (ix2 : Nat) (x4 : Int32) (x5 : Int32), ix0 < 6 → gRow ix2 → fX4_reckon_34 n v ix0 x1 ix2 x4 x5 = some (xr, v') → G v [(0, .ref (r (31 + ix0))), (1, .int x1), (2, .ref (r ix2)), (4, .int x4), (5, .int x5)] 34 [] := by
  intro n
  induction n with
  | zero => intro v ix0 x1 ix2 x4 x5 hix0 hix2 h; rw [fX4_reckon_34] at h; cases h
  | succ n ih =>
    intro v ix0 x1 ix2 x4 x5 hix0 hix2 h
    rw [fX4_reckon_34] at h
    refine g_iload X dX4_reckon_34 4 rfl ?_
    refine g_if_lt X 218 dX4_reckon_36 (by decide) (fun c => ?_) (fun c => ?_)
    · replace h := gTr c h
      refine g_sub X [0, 3] (ls' := [(0, .ref (r (31 + ix0))), (4, .int x4)]) rfl ?_
      exact bX4_reckon_218 X  _ _ _ hix0 h
    · replace h := gF c h
      refine g_iload X dX4_reckon_39 4 rfl ?_
      refine g_aload_n X dX4_reckon_41 rfl 0 rfl ?_
      refine g_get X fl4_15 (shC_text_lt hix0) (shC_text hix0 _) rfl dX4_reckon_42 ?_
      refine g_iload_n X dX4_reckon_45 rfl 1 rfl ?_
      obtain ⟨c, h⟩ := gGd h
      refine g_iald X (shC_ends_lt hix0) (shC_ends hix0 _) rfl (gin_in c) dX4_reckon_46 ?_
      refine g_icmp_ge X 218 dX4_reckon_47 (by decide) (fun c => ?_) (fun c => ?_)
      · replace h := gTr c h
        refine g_sub X [0, 3] (ls' := [(0, .ref (r (31 + ix0))), (4, .int x4)]) rfl ?_
        exact bX4_reckon_218 X  _ _ _ hix0 h
      · replace h := gF c h
        refine g_iload X dX4_reckon_50 4 rfl ?_
        refine g_aload_n X dX4_reckon_52 rfl 0 rfl ?_
        refine g_get X fl4_9 (shC_text_lt hix0) (shC_text hix0 _) rfl dX4_reckon_53 ?_
        refine g_alen X (t0 := 0) 160 (shC_codes_lt hix0) (shC_codes hix0 _) rfl rfl dX4_reckon_56 ?_
        refine g_icmp_ge X 218 dX4_reckon_57 (by decide) (fun c => ?_) (fun c => ?_)
        · replace h := gTr c h
          refine g_sub X [0, 3] (ls' := [(0, .ref (r (31 + ix0))), (4, .int x4)]) rfl ?_
          exact bX4_reckon_218 X  _ _ _ hix0 h
        · replace h := gF c h
          refine g_aload_n X dX4_reckon_60 rfl 0 rfl ?_
          refine g_get X fl4_9 (shC_text_lt hix0) (shC_text hix0 _) rfl dX4_reckon_61 ?_
          refine g_iload X dX4_reckon_64 4 rfl ?_
          obtain ⟨c, h⟩ := gGd h
          refine g_iald X (shC_codes_lt hix0) (shC_codes hix0 _) rfl (gin_in c) dX4_reckon_66 ?_
          refine g_istore X (ls' := [(6, .int (v (37 + ix0) x5.toNatClampNeg)), (0, .ref (r (31 + ix0))), (1, .int x1), (2, .ref (r ix2)), (4, .int x4), (5, .int x5)]) dX4_reckon_67 (by decide) rfl ?_
          refine g_iload X dX4_reckon_69 0 rfl ?_
          refine g_sipush X 20000 dX4_reckon_71 (by decide) ?_
          refine g_icmp_ge X 108 dX4_reckon_74 (by decide) (fun c => ?_) (fun c => ?_)
          · replace h := gTr c h
            refine g_iload X dX4_reckon_108 0 rfl ?_
            refine g_sipush X 20001 dX4_reckon_110 (by decide) ?_
            refine g_icmp_gt X 171 dX4_reckon_113 (by decide) (fun c => ?_) (fun c => ?_)
            · replace h := gTr c h
              refine g_iload X dX4_reckon_171 4 rfl ?_
              refine g_iconst X 2 dX4_reckon_173 (by decide) ?_
              refine g_icmp_ge X 179 dX4_reckon_174 (by decide) (fun c => ?_) (fun c => ?_)
              · replace h := gTr c h
                refine g_iinc X (x4 + (-1)) [(4, .int (x4 + (-1))), (6, .int (v (37 + ix0) x5.toNatClampNeg)), (0, .ref (r (31 + ix0))), (1, .int x1), (2, .ref (r ix2)), (5, .int x5)] dX4_reckon_179 4 rfl rfl (by decide) rfl ?_
                refine g_aload_n X dX4_reckon_182 rfl 2 rfl ?_
                refine g_get X fl4_18 (shC_text_lt hix0) (shC_text hix0 _) rfl dX4_reckon_183 ?_
                refine g_iload X dX4_reckon_186 0 rfl ?_
                refine g_iconst X 1 dX4_reckon_188 (by decide) ?_
                refine g_isub X dX4_reckon_189 ?_
                refine g_iload X dX4_reckon_190 1 rfl ?_
                refine g_aload_n X dX4_reckon_192 rfl 2 rfl ?_
                refine g_get X fl4_18 (shC_text_lt hix0) (shC_text hix0 _) rfl dX4_reckon_193 ?_
                refine g_iload X dX4_reckon_196 0 rfl ?_
                refine g_iconst X 1 dX4_reckon_198 (by decide) ?_
                refine g_isub X dX4_reckon_199 ?_
                obtain ⟨c, h⟩ := gGd h
                refine g_iald X hNC_49 (shC_49 _) rfl (gin_in c) dX4_reckon_200 ?_
                refine g_aload_n X dX4_reckon_201 rfl 2 rfl ?_
                refine g_get X fl4_18 (shC_text_lt hix0) (shC_text hix0 _) rfl dX4_reckon_202 ?_
                refine g_iload X dX4_reckon_205 0 rfl ?_
                obtain ⟨c, h⟩ := gGd h
                refine g_iald X hNC_49 (shC_49 _) rfl (gin_in c) dX4_reckon_207 ?_
                obtain ⟨y1, v2, hc3, h⟩ := gB_inv h
                refine g_callS X (st := [.int ((x4 + (-1)) - 1), .ref (r 49)]) (st' := [.int y1, .int ((x4 + (-1)) - 1), .ref (r 49)]) kcX4_ofTwo ktX4_ofTwo kl4_36 (⟨rfl, rfl, by decide, by decide⟩) (mX4_ofTwo hc3) rfl rfl (Nat.le_of_ble_eq_true rfl) rfl dX4_reckon_208 ?_
                obtain ⟨c, h⟩ := gGd h
                refine g_iast X hNC_49 (shC_49) rfl (gin_in c) dX4_reckon_211 ?_
                refine g_sub X [2, 3, 4, 0, 5] (ls' := [(0, .ref (r (31 + ix0))), (1, .int x1), (2, .ref (r ix2)), (4, .int (x4 + (-1))), (5, .int x5)]) rfl ?_
                exact bX4_reckon_212 X ih _ _ _ _ _ _ hix0 hix2 h
              · replace h := gF c h
                refine g_iconst X 0 dX4_reckon_177 (by decide) ?_
                exact g_iretR X h dX4_reckon_178
            · replace h := gF c h
              refine g_iload X dX4_reckon_116 4 rfl ?_
              refine g_iconst X 1 dX4_reckon_118 (by decide) ?_
              refine g_icmp_ge X 124 dX4_reckon_119 (by decide) (fun c => ?_) (fun c => ?_)
              · replace h := gTr c h
                refine g_aload_n X dX4_reckon_124 rfl 1 rfl ?_
                refine g_get X fl4_18 (shC_text_lt hix0) (shC_text hix0 _) rfl dX4_reckon_125 ?_
                refine g_iload X dX4_reckon_128 4 rfl ?_
                refine g_iconst X 1 dX4_reckon_130 (by decide) ?_
                refine g_isub X dX4_reckon_131 ?_
                obtain ⟨c, h⟩ := gGd h
                refine g_iald X hNC_49 (shC_49 _) rfl (gin_in c) dX4_reckon_132 ?_
                refine g_istore X (ls' := [(7, .int (v 49 (x4 - 1).toNatClampNeg)), (6, .int (v (37 + ix0) x5.toNatClampNeg)), (0, .ref (r (31 + ix0))), (1, .int x1), (2, .ref (r ix2)), (4, .int x4), (5, .int x5)]) dX4_reckon_133 (by decide) rfl ?_
                refine g_aload_n X dX4_reckon_135 rfl 2 rfl ?_
                refine g_get X fl4_18 (shC_text_lt hix0) (shC_text hix0 _) rfl dX4_reckon_136 ?_
                refine g_iload X dX4_reckon_139 5 rfl ?_
                refine g_iconst X 1 dX4_reckon_141 (by decide) ?_
                refine g_isub X dX4_reckon_142 ?_
                refine g_iload X dX4_reckon_143 1 rfl ?_
                refine g_sipush X 20000 dX4_reckon_145 (by decide) ?_
                refine g_icmp_ne X 157 dX4_reckon_148 (by decide) (fun c => ?_) (fun c => ?_)
                · replace h := gF c h
                  refine g_iload X dX4_reckon_157 0 rfl ?_
                  refine g_if_ne X 166 dX4_reckon_159 (by decide) (fun c => ?_) (fun c => ?_)
                  · replace h := gF c h
                    refine g_iconst X 0 dX4_reckon_166 (by decide) ?_
                    refine g_sub X [2, 3, 4, 5, 6] (ls' := [(0, .ref (r (31 + ix0))), (1, .int x1), (2, .ref (r ix2)), (4, .int x4), (5, .int x5)]) rfl ?_
                    exact bX4_reckon_167 X ih _ _ _ _ _ _ _ _ hix0 hix2 h
                  · replace h := gTr c h
                    refine g_iconst X 1 dX4_reckon_162 (by decide) ?_
                    refine g_goto X 167 dX4_reckon_163 (by decide) ?_
                    refine g_sub X [2, 3, 4, 5, 6] (ls' := [(0, .ref (r (31 + ix0))), (1, .int x1), (2, .ref (r ix2)), (4, .int x4), (5, .int x5)]) rfl ?_
                    exact bX4_reckon_167 X ih _ _ _ _ _ _ _ _ hix0 hix2 h
                · replace h := gTr c h
                  refine g_iload X dX4_reckon_151 0 rfl ?_
                  refine g_ineg X dX4_reckon_153 ?_
                  refine g_goto X 167 dX4_reckon_154 (by decide) ?_
                  refine g_sub X [2, 3, 4, 5, 6] (ls' := [(0, .ref (r (31 + ix0))), (1, .int x1), (2, .ref (r ix2)), (4, .int x4), (5, .int x5)]) rfl ?_
                  exact bX4_reckon_167 X ih _ _ _ _ _ _ _ _ hix0 hix2 h
              · replace h := gF c h
                refine g_iconst X 0 dX4_reckon_122 (by decide) ?_
                exact g_iretR X h dX4_reckon_123
          · replace h := gF c h
            refine g_iload X dX4_reckon_77 4 rfl ?_
            refine g_aload_n X dX4_reckon_79 rfl 1 rfl ?_
            refine g_get X fl4_18 (shC_text_lt hix0) (shC_text hix0 _) rfl dX4_reckon_80 ?_
            refine g_alen X (t0 := 0) 40 hNC_49 (shC_49 _) rfl rfl dX4_reckon_83 ?_
            refine g_icmp_lt X 89 dX4_reckon_84 (by decide) (fun c => ?_) (fun c => ?_)
            · replace h := gTr c h
              refine g_aload_n X dX4_reckon_89 rfl 1 rfl ?_
              refine g_get X fl4_18 (shC_text_lt hix0) (shC_text hix0 _) rfl dX4_reckon_90 ?_
              refine g_iload X dX4_reckon_93 4 rfl ?_
              refine g_iload X dX4_reckon_95 0 rfl ?_
              refine g_aload_n X dX4_reckon_97 rfl 3 rfl ?_
              obtain ⟨y4, v5, hc6, h⟩ := gB_inv h
              refine g_callS X (st := [.int x4, .ref (r 49)]) (st' := [.int y4, .int x4, .ref (r 49)]) kcX4_operand ktX4_operand kl4_32 (⟨rfl, rfl, by decide, by decide⟩) (mX4_operand hix2 hc6) rfl rfl (Nat.le_of_ble_eq_true rfl) rfl dX4_reckon_98 ?_
              obtain ⟨c, h⟩ := gGd h
              refine g_iast X hNC_49 (shC_49) rfl (gin_in c) dX4_reckon_101 ?_
              refine g_iinc X (x4 + 1) [(4, .int (x4 + 1)), (6, .int (v (37 + ix0) x5.toNatClampNeg)), (0, .ref (r (31 + ix0))), (1, .int x1), (2, .ref (r ix2)), (5, .int x5)] dX4_reckon_102 4 rfl rfl (by decide) rfl ?_
              refine g_goto X 212 dX4_reckon_105 (by decide) ?_
              refine g_sub X [2, 3, 4, 0, 5] (ls' := [(0, .ref (r (31 + ix0))), (1, .int x1), (2, .ref (r ix2)), (4, .int (x4 + 1)), (5, .int x5)]) rfl ?_
              exact bX4_reckon_212 X ih _ _ _ _ _ _ hix0 hix2 h
            · replace h := gF c h
              refine g_iconst X 0 dX4_reckon_87 (by decide) ?_
              exact g_iretR X h dX4_reckon_88

set_option maxHeartbeats 4000000 in
set_option maxRecDepth 100000 in
theorem bX4_reckon_27 {l : Launch} {D : va_G} {cA : Nat → ClassId} {r : Nat → Nat} {G : gG} {xr : Int32} {v' : gV} (X : XC l D cA r RX4 cX4_reckon 8 (some .int) rmX4_reckon (some (.int xr)) v' G) (v : gV) (ix0 : Nat) (x1 : Int32) (ix2 : Nat) (s0 : Int32) (hix0 : ix0 < 6) (hix2 : gRow ix2) (h : fX4_reckon_27 v ix0 x1 ix2 s0 = some (xr, v')) : G v [(0, .ref (r (31 + ix0))), (1, .int x1), (2, .ref (r ix2))] 27 [.int s0] := by
  unfold fX4_reckon_27 at h
  refine g_istore_n X (ls' := [(3, .int s0), (0, .ref (r (31 + ix0))), (1, .int x1), (2, .ref (r ix2))]) dX4_reckon_27 rfl (by decide) rfl ?_
  refine g_iconst X 0 dX4_reckon_28 (by decide) ?_
  refine g_istore X (ls' := [(4, .int 0), (3, .int s0), (0, .ref (r (31 + ix0))), (1, .int x1), (2, .ref (r ix2))]) dX4_reckon_29 (by decide) rfl ?_
  refine g_iload_n X dX4_reckon_31 rfl 1 rfl ?_
  refine g_istore X (ls' := [(5, .int s0), (4, .int 0), (3, .int s0), (0, .ref (r (31 + ix0))), (1, .int x1), (2, .ref (r ix2))]) dX4_reckon_32 (by decide) rfl ?_
  refine g_sub X [3, 4, 5, 1, 0] (ls' := [(0, .ref (r (31 + ix0))), (1, .int x1), (2, .ref (r ix2)), (4, .int 0), (5, .int s0)]) rfl ?_
  exact bX4_reckon_34 X  _ _ _ _ _ _ _ hix0 hix2 h

set_option maxHeartbeats 4000000 in
set_option maxRecDepth 100000 in
theorem bX4_reckon_0 {l : Launch} {D : va_G} {cA : Nat → ClassId} {r : Nat → Nat} {G : gG} {xr : Int32} {v' : gV} (X : XC l D cA r RX4 cX4_reckon 8 (some .int) rmX4_reckon (some (.int xr)) v' G) (v : gV) (t0 : Nat) (x1 : Int32) (a2 : Nat) (ht0 : t0 < 6) (ha2 : gRow a2) (h : fX4_reckon v t0 x1 a2 = some (xr, v')) : G v [(0, .ref (r (31 + t0))), (1, .int x1), (2, .ref (r a2))] 0 [] := by
  unfold fX4_reckon at h
  refine g_iload_n X dX4_reckon_0 rfl 1 rfl ?_
  refine g_if_lt X 9 dX4_reckon_1 (by decide) (fun c => ?_) (fun c => ?_)
  · replace h := gTr c h
    refine g_iconst X 0 dX4_reckon_9 (by decide) ?_
    exact g_iretR X h dX4_reckon_10
  · replace h := gF c h
    refine g_iload_n X dX4_reckon_4 rfl 1 rfl ?_
    refine g_iconst X 3 dX4_reckon_5 (by decide) ?_
    refine g_icmp_lt X 11 dX4_reckon_6 (by decide) (fun c => ?_) (fun c => ?_)
    · replace h := gTr c h
      refine g_iload_n X dX4_reckon_11 rfl 1 rfl ?_
      refine g_if_ne X 19 dX4_reckon_12 (by decide) (fun c => ?_) (fun c => ?_)
      · replace h := gF c h
        refine g_aload_n X dX4_reckon_19 rfl 0 rfl ?_
        refine g_get X fl4_15 (shC_text_lt ht0) (shC_text ht0 _) rfl dX4_reckon_20 ?_
        refine g_iload_n X dX4_reckon_23 rfl 1 rfl ?_
        refine g_iconst X 1 dX4_reckon_24 (by decide) ?_
        refine g_isub X dX4_reckon_25 ?_
        obtain ⟨c, h⟩ := gGd h
        refine g_iald X (shC_ends_lt ht0) (shC_ends ht0 _) rfl (gin_in c) dX4_reckon_26 ?_
        exact bX4_reckon_27 X  _ _ _ _ _ ht0 ha2 h
      · replace h := gTr c h
        refine g_iconst X 0 dX4_reckon_15 (by decide) ?_
        refine g_goto X 27 dX4_reckon_16 (by decide) ?_
        exact bX4_reckon_27 X  _ _ _ _ _ ht0 ha2 h
    · replace h := gF c h
      refine g_iconst X 0 dX4_reckon_9 (by decide) ?_
      exact g_iretR X h dX4_reckon_10

theorem mX4_reckon {l : Launch} {D : va_G} {cA : Nat → ClassId} {r : Nat → Nat} {v : gV} {t0 : Nat} {x1 : Int32} {a2 : Nat} {xr : Int32} {v' : gV} (ht0 : t0 < 6) (ha2 : gRow a2) (h : fX4_reckon v t0 x1 a2 = some (xr, v')) : Ct l D (tysC cA) (shC cA r) 50 r (ZC r) yX4_reckon cX4_reckon 8 (some .int) rmX4_reckon [.ref (r (31 + t0)), .int x1, .ref (r a2)] v (some (.int xr)) v' := ct_of plX4 ZC_ok (Nat.le_of_ble_eq_true rfl) rfl (fun _ X => bX4_reckon_0 X v t0 x1 a2 ht0 ha2 h)
