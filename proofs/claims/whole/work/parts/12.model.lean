def rmX6_in : Room := { frames := 0, cells := 0, slots := 0, locals := 0 }

set_option maxHeartbeats 4000000 in
set_option maxRecDepth 100000 in
theorem bX6_in_0 {l : Launch} {D : va_G} {cA : Nat → ClassId} {r : Nat → Nat} {G : gG} {xr : Int32} {v' : gV} (X : XM l D cA r RX6 cX6_in 3 (some .boolean) rmX6_in (some (.int xr)) v' G) (v : gV) (x0 : Int32) (x1 : Int32) (x2 : Int32) (h : fX6_in v x0 x1 x2 = some (xr, v')) : G v [(0, .int x0), (1, .int x1), (2, .int x2)] 0 [] := by
  unfold fX6_in at h
  refine g_iload_n X dX6_in_0 rfl 0 rfl ?_
  refine g_iload_n X dX6_in_1 rfl 1 rfl ?_
  refine g_icmp_lt X 14 dX6_in_2 (by decide) (fun c => ?_) (fun c => ?_)
  · replace h := gTr c h
    refine g_iconst X 0 dX6_in_14 (by decide) ?_
    exact g_zretR X (Or.inl rfl) h dX6_in_15
  · replace h := gF c h
    refine g_iload_n X dX6_in_5 rfl 0 rfl ?_
    refine g_iload_n X dX6_in_6 rfl 2 rfl ?_
    refine g_icmp_gt X 14 dX6_in_7 (by decide) (fun c => ?_) (fun c => ?_)
    · replace h := gTr c h
      refine g_iconst X 0 dX6_in_14 (by decide) ?_
      exact g_zretR X (Or.inl rfl) h dX6_in_15
    · replace h := gF c h
      refine g_iconst X 1 dX6_in_10 (by decide) ?_
      refine g_goto X 15 dX6_in_11 (by decide) ?_
      exact g_zretR X (Or.inr rfl) h dX6_in_15

theorem mX6_in {l : Launch} {D : va_G} {cA : Nat → ClassId} {r : Nat → Nat} {v : gV} {x0 : Int32} {x1 : Int32} {x2 : Int32} {xr : Int32} {v' : gV} (h : fX6_in v x0 x1 x2 = some (xr, v')) : Ct l D (tysM cA) (shM cA r) 19 r (ZM r) yX6_in cX6_in 3 (some .boolean) rmX6_in [.int x0, .int x1, .int x2] v (some (.int xr)) v' := ct_of plX6 ZM_ok (Nat.le_of_ble_eq_true rfl) rfl (fun _ X => bX6_in_0 X v x0 x1 x2 h)

def rmX6_within : Room := { frames := 0, cells := 0, slots := 0, locals := 0 }

set_option maxHeartbeats 4000000 in
set_option maxRecDepth 100000 in
theorem bX6_within_0 {l : Launch} {D : va_G} {cA : Nat → ClassId} {r : Nat → Nat} {G : gG} {xr : Int32} {v' : gV} (X : XM l D cA r RX6 cX6_within 3 (some .int) rmX6_within (some (.int xr)) v' G) (v : gV) (x0 : Int32) (x1 : Int32) (x2 : Int32) (h : fX6_within v x0 x1 x2 = some (xr, v')) : G v [(0, .int x0), (1, .int x1), (2, .int x2)] 0 [] := by
  unfold fX6_within at h
  refine g_iload_n X dX6_within_0 rfl 0 rfl ?_
  refine g_iload_n X dX6_within_1 rfl 1 rfl ?_
  refine g_icmp_ge X 9 dX6_within_2 (by decide) (fun c => ?_) (fun c => ?_)
  · replace h := gTr c h
    refine g_iload_n X dX6_within_9 rfl 0 rfl ?_
    refine g_iload_n X dX6_within_10 rfl 2 rfl ?_
    refine g_icmp_le X 18 dX6_within_11 (by decide) (fun c => ?_) (fun c => ?_)
    · replace h := gTr c h
      refine g_iload_n X dX6_within_18 rfl 0 rfl ?_
      exact g_iretR X h dX6_within_19
    · replace h := gF c h
      refine g_iload_n X dX6_within_14 rfl 2 rfl ?_
      refine g_goto X 19 dX6_within_15 (by decide) ?_
      exact g_iretR X h dX6_within_19
  · replace h := gF c h
    refine g_iload_n X dX6_within_5 rfl 1 rfl ?_
    refine g_goto X 19 dX6_within_6 (by decide) ?_
    exact g_iretR X h dX6_within_19

theorem mX6_within {l : Launch} {D : va_G} {cA : Nat → ClassId} {r : Nat → Nat} {v : gV} {x0 : Int32} {x1 : Int32} {x2 : Int32} {xr : Int32} {v' : gV} (h : fX6_within v x0 x1 x2 = some (xr, v')) : Ct l D (tysM cA) (shM cA r) 19 r (ZM r) yX6_within cX6_within 3 (some .int) rmX6_within [.int x0, .int x1, .int x2] v (some (.int xr)) v' := ct_of plX6 ZM_ok (Nat.le_of_ble_eq_true rfl) rfl (fun _ X => bX6_within_0 X v x0 x1 x2 h)

def rmX6_isRate : Room := { frames := 1, cells := 0, slots := 0, locals := 22 }

set_option maxHeartbeats 4000000 in
set_option maxRecDepth 100000 in
theorem bX6_isRate_0 {l : Launch} {D : va_G} {cA : Nat → ClassId} {r : Nat → Nat} {G : gG} {xr : Int32} {v' : gV} (X : XM l D cA r RX6 cX6_isRate 2 (some .boolean) rmX6_isRate (some (.int xr)) v' G) (v : gV) (x1 : Int32) (h : fX6_isRate v x1 = some (xr, v')) : G v [(0, .ref (r 0)), (1, .int x1)] 0 [] := by
  unfold fX6_isRate at h
  refine g_iload_n X dX6_isRate_0 rfl 1 rfl ?_
  refine g_iconst X 0 dX6_isRate_1 (by decide) ?_
  refine g_aload_n X dX6_isRate_2 rfl 0 rfl ?_
  refine g_get X fl6_75 hNM_0 (shM_0 _) rfl dX6_isRate_3 ?_
  refine g_iconst X 1 dX6_isRate_6 (by decide) ?_
  refine g_isub X dX6_isRate_7 ?_
  obtain ⟨y1, v2, hc3, h⟩ := gB_inv h
  refine g_callS X (st := []) (st' := [.int y1]) kcX6_in ktX6_in kl6_78 (⟨rfl, rfl, by decide, by decide⟩) (mX6_in hc3) rfl rfl (Nat.le_of_ble_eq_true rfl) rfl dX6_isRate_8 ?_
  obtain ⟨c, h⟩ := gGd h
  exact g_zretR X c h dX6_isRate_11

theorem mX6_isRate {l : Launch} {D : va_G} {cA : Nat → ClassId} {r : Nat → Nat} {v : gV} {x1 : Int32} {xr : Int32} {v' : gV} (h : fX6_isRate v x1 = some (xr, v')) : Ct l D (tysM cA) (shM cA r) 19 r (ZM r) yX6_isRate cX6_isRate 2 (some .boolean) rmX6_isRate [.ref (r 0), .int x1] v (some (.int xr)) v' := ct_of plX6 ZM_ok (Nat.le_of_ble_eq_true rfl) rfl (fun _ X => bX6_isRate_0 X v x1 h)

def rmX6_isMove : Room := { frames := 1, cells := 0, slots := 0, locals := 22 }

set_option maxHeartbeats 4000000 in
set_option maxRecDepth 100000 in
theorem bX6_isMove_0 {l : Launch} {D : va_G} {cA : Nat → ClassId} {r : Nat → Nat} {G : gG} {xr : Int32} {v' : gV} (X : XM l D cA r RX6 cX6_isMove 2 (some .boolean) rmX6_isMove (some (.int xr)) v' G) (v : gV) (x1 : Int32) (h : fX6_isMove v x1 = some (xr, v')) : G v [(0, .ref (r 0)), (1, .int x1)] 0 [] := by
  unfold fX6_isMove at h
  refine g_iload_n X dX6_isMove_0 rfl 1 rfl ?_
  refine g_iconst X 0 dX6_isMove_1 (by decide) ?_
  refine g_aload_n X dX6_isMove_2 rfl 0 rfl ?_
  refine g_get X fl6_75 hNM_0 (shM_0 _) rfl dX6_isMove_3 ?_
  obtain ⟨y1, v2, hc3, h⟩ := gB_inv h
  refine g_callS X (st := []) (st' := [.int y1]) kcX6_in ktX6_in kl6_78 (⟨rfl, rfl, by decide, by decide⟩) (mX6_in hc3) rfl rfl (Nat.le_of_ble_eq_true rfl) rfl dX6_isMove_6 ?_
  obtain ⟨c, h⟩ := gGd h
  exact g_zretR X c h dX6_isMove_9

theorem mX6_isMove {l : Launch} {D : va_G} {cA : Nat → ClassId} {r : Nat → Nat} {v : gV} {x1 : Int32} {xr : Int32} {v' : gV} (h : fX6_isMove v x1 = some (xr, v')) : Ct l D (tysM cA) (shM cA r) 19 r (ZM r) yX6_isMove cX6_isMove 2 (some .boolean) rmX6_isMove [.ref (r 0), .int x1] v (some (.int xr)) v' := ct_of plX6 ZM_ok (Nat.le_of_ble_eq_true rfl) rfl (fun _ X => bX6_isMove_0 X v x1 h)

def rmX6_set : Room := { frames := 1, cells := 0, slots := 0, locals := 22 }

set_option maxHeartbeats 4000000 in
set_option maxRecDepth 100000 in
theorem bX6_set_33 {l : Launch} {D : va_G} {cA : Nat → ClassId} {r : Nat → Nat} {G : gG} {xr : Int32} {v' : gV} (X : XM l D cA r RX6 cX6_set 4 (some .int) rmX6_set (some (.int xr)) v' G) (v : gV) (x1 : Int32) (x2 : Int32) (s0 : Int32) (s1 : Int32) (s2 : Int32) (h : fX6_set_33 v x1 x2 s0 s1 s2 = some (xr, v')) : G v [(0, .ref (r 0)), (1, .int x1), (2, .int x2)] 33 [.int s2, .int s1, .int s0] := by
  unfold fX6_set_33 at h
  obtain ⟨y4, v5, hc6, h⟩ := gB_inv h
  refine g_callS X (st := []) (st' := [.int y4]) kcX6_in ktX6_in kl6_78 (⟨rfl, rfl, by decide, by decide⟩) (mX6_in hc6) rfl rfl (Nat.le_of_ble_eq_true rfl) rfl dX6_set_33 ?_
  refine g_if_ne X 42 dX6_set_36 (by decide) (fun c => ?_) (fun c => ?_)
  · replace h := gF c h
    refine g_aload_n X dX6_set_42 rfl 0 rfl ?_
    refine g_get X fl6_7 hNM_0 (shM_0 _) rfl dX6_set_43 ?_
    refine g_iload_n X dX6_set_46 rfl 1 rfl ?_
    obtain ⟨c, h⟩ := gGd h
    refine g_iald X hNM_1 (shM_1 _) rfl (gin_in c) dX6_set_47 ?_
    refine g_istore_n X (ls' := [(3, .int (v5 1 x1.toNatClampNeg)), (0, .ref (r 0)), (1, .int x1), (2, .int x2)]) dX6_set_48 rfl (by decide) rfl ?_
    refine g_aload_n X dX6_set_49 rfl 1 rfl ?_
    refine g_get X fl6_7 hNM_0 (shM_0 _) rfl dX6_set_50 ?_
    refine g_iload_n X dX6_set_53 rfl 2 rfl ?_
    refine g_iload_n X dX6_set_54 rfl 3 rfl ?_
    obtain ⟨c, h⟩ := gGd h
    refine g_iast X hNM_1 (shM_1) rfl (gin_in c) dX6_set_55 ?_
    refine g_iload_n X dX6_set_56 rfl 0 rfl ?_
    exact g_iretR X h dX6_set_57
  · replace h := gTr c h
    refine g_bipush X (-2) dX6_set_39 (by decide) ?_
    exact g_iretR X h dX6_set_41

set_option maxHeartbeats 4000000 in
set_option maxRecDepth 100000 in
theorem bX6_set_25 {l : Launch} {D : va_G} {cA : Nat → ClassId} {r : Nat → Nat} {G : gG} {xr : Int32} {v' : gV} (X : XM l D cA r RX6 cX6_set 4 (some .int) rmX6_set (some (.int xr)) v' G) (v : gV) (x1 : Int32) (x2 : Int32) (s0 : Int32) (s1 : Int32) (h : fX6_set_25 v x1 x2 s0 s1 = some (xr, v')) : G v [(0, .ref (r 0)), (1, .int x1), (2, .int x2)] 25 [.int s1, .int s0] := by
  unfold fX6_set_25 at h
  refine g_bipush X 99 dX6_set_25 (by decide) ?_
  refine g_goto X 33 dX6_set_27 (by decide) ?_
  exact bX6_set_33 X  _ _ _ _ _ _  h

set_option maxHeartbeats 4000000 in
set_option maxRecDepth 100000 in
theorem bX6_set_0 {l : Launch} {D : va_G} {cA : Nat → ClassId} {r : Nat → Nat} {G : gG} {xr : Int32} {v' : gV} (X : XM l D cA r RX6 cX6_set 4 (some .int) rmX6_set (some (.int xr)) v' G) (v : gV) (x1 : Int32) (x2 : Int32) (h : fX6_set v x1 x2 = some (xr, v')) : G v [(0, .ref (r 0)), (1, .int x1), (2, .int x2)] 0 [] := by
  unfold fX6_set at h
  refine g_iload_n X dX6_set_0 rfl 1 rfl ?_
  refine g_iconst X 0 dX6_set_1 (by decide) ?_
  refine g_bipush X 6 dX6_set_2 (by decide) ?_
  obtain ⟨y1, v2, hc3, h⟩ := gB_inv h
  refine g_callS X (st := []) (st' := [.int y1]) kcX6_in ktX6_in kl6_78 (⟨rfl, rfl, by decide, by decide⟩) (mX6_in hc3) rfl rfl (Nat.le_of_ble_eq_true rfl) rfl dX6_set_4 ?_
  refine g_if_ne X 12 dX6_set_7 (by decide) (fun c => ?_) (fun c => ?_)
  · replace h := gF c h
    refine g_iload_n X dX6_set_12 rfl 2 rfl ?_
    refine g_iconst X 0 dX6_set_13 (by decide) ?_
    refine g_iload_n X dX6_set_14 rfl 1 rfl ?_
    refine g_iconst X 4 dX6_set_15 (by decide) ?_
    refine g_icmp_eq X 25 dX6_set_16 (by decide) (fun c => ?_) (fun c => ?_)
    · replace h := gTr c h
      exact bX6_set_25 X  _ _ _ _ _  h
    · replace h := gF c h
      refine g_iload_n X dX6_set_19 rfl 1 rfl ?_
      refine g_bipush X 6 dX6_set_20 (by decide) ?_
      refine g_icmp_ne X 30 dX6_set_22 (by decide) (fun c => ?_) (fun c => ?_)
      · replace h := gF c h
        refine g_sipush X 999 dX6_set_30 (by decide) ?_
        exact bX6_set_33 X  _ _ _ _ _ _  h
      · replace h := gTr c h
        exact bX6_set_25 X  _ _ _ _ _  h
  · replace h := gTr c h
    refine g_iconst X (-1) dX6_set_10 (by decide) ?_
    exact g_iretR X h dX6_set_11

theorem mX6_set {l : Launch} {D : va_G} {cA : Nat → ClassId} {r : Nat → Nat} {v : gV} {x1 : Int32} {x2 : Int32} {xr : Int32} {v' : gV} (h : fX6_set v x1 x2 = some (xr, v')) : Ct l D (tysM cA) (shM cA r) 19 r (ZM r) yX6_set cX6_set 4 (some .int) rmX6_set [.ref (r 0), .int x1, .int x2] v (some (.int xr)) v' := ct_of plX6 ZM_ok (Nat.le_of_ble_eq_true rfl) rfl (fun _ X => bX6_set_0 X v x1 x2 h)

def rmX6_count : Room := { frames := 1, cells := 0, slots := 0, locals := 22 }

set_option maxHeartbeats 4000000 in
set_option maxRecDepth 100000 in
theorem bX6_count_0 {l : Launch} {D : va_G} {cA : Nat → ClassId} {r : Nat → Nat} {G : gG} {xr : Int32} {v' : gV} (X : XM l D cA r RX6 cX6_count 2 (some .int) rmX6_count (some (.int xr)) v' G) (v : gV) (x1 : Int32) (h : fX6_count v x1 = some (xr, v')) : G v [(0, .ref (r 0)), (1, .int x1)] 0 [] := by
  unfold fX6_count at h
  refine g_iload_n X dX6_count_0 rfl 1 rfl ?_
  refine g_iconst X 0 dX6_count_1 (by decide) ?_
  refine g_bipush X 6 dX6_count_2 (by decide) ?_
  obtain ⟨y1, v2, hc3, h⟩ := gB_inv h
  refine g_callS X (st := []) (st' := [.int y1]) kcX6_in ktX6_in kl6_78 (⟨rfl, rfl, by decide, by decide⟩) (mX6_in hc3) rfl rfl (Nat.le_of_ble_eq_true rfl) rfl dX6_count_4 ?_
  refine g_if_eq X 17 dX6_count_7 (by decide) (fun c => ?_) (fun c => ?_)
  · replace h := gTr c h
    refine g_iload_n X dX6_count_17 rfl 1 rfl ?_
    by_cases c : x1 = 7
    · replace h := gTr c h
      refine g_tableIn X 48 dX6_count_18 (by rw [c]; decide) (by rw [c]; decide) (by rw [c]; rfl) (by decide) ?_
      refine g_aload_n X dX6_count_48 rfl 0 rfl ?_
      refine g_get X fl6_75 hNM_0 (shM_0 _) rfl dX6_count_49 ?_
      exact g_iretR X h dX6_count_52
    · replace h := gF c h
      have n7 : (x1).toInt ≠ 7 := fun q => c (Int32.toInt_inj.mp (q.trans (by decide)))
      clear c
      by_cases c : x1 = 8
      · replace h := gTr c h
        refine g_tableIn X 53 dX6_count_18 (by rw [c]; decide) (by rw [c]; decide) (by rw [c]; rfl) (by decide) ?_
        refine g_aload_n X dX6_count_53 rfl 0 rfl ?_
        refine g_get X fl6_82 hNM_0 (shM_0 _) rfl dX6_count_54 ?_
        exact g_iretR X h dX6_count_57
      · replace h := gF c h
        have n8 : (x1).toInt ≠ 8 := fun q => c (Int32.toInt_inj.mp (q.trans (by decide)))
        clear c
        by_cases c : x1 = 9
        · replace h := gTr c h
          refine g_tableIn X 58 dX6_count_18 (by rw [c]; decide) (by rw [c]; decide) (by rw [c]; rfl) (by decide) ?_
          refine g_aload_n X dX6_count_58 rfl 0 rfl ?_
          refine g_get X fl6_85 hNM_0 (shM_0 _) rfl dX6_count_59 ?_
          exact g_iretR X h dX6_count_62
        · replace h := gF c h
          have n9 : (x1).toInt ≠ 9 := fun q => c (Int32.toInt_inj.mp (q.trans (by decide)))
          clear c
          by_cases c : x1 = 10
          · replace h := gTr c h
            refine g_tableIn X 63 dX6_count_18 (by rw [c]; decide) (by rw [c]; decide) (by rw [c]; rfl) (by decide) ?_
            refine g_aload_n X dX6_count_63 rfl 0 rfl ?_
            refine g_get X fl6_68 hNM_0 (shM_0 _) rfl dX6_count_64 ?_
            exact g_iretR X h dX6_count_67
          · replace h := gF c h
            have n10 : (x1).toInt ≠ 10 := fun q => c (Int32.toInt_inj.mp (q.trans (by decide)))
            clear c
            refine g_tableOut X 68 dX6_count_18 (by omega) (by decide) ?_
            refine g_bipush X (-2) dX6_count_68 (by decide) ?_
            exact g_iretR X h dX6_count_70
  · replace h := gF c h
    refine g_aload_n X dX6_count_10 rfl 0 rfl ?_
    refine g_get X fl6_7 hNM_0 (shM_0 _) rfl dX6_count_11 ?_
    refine g_iload_n X dX6_count_14 rfl 1 rfl ?_
    obtain ⟨c, h⟩ := gGd h
    refine g_iald X hNM_1 (shM_1 _) rfl (gin_in c) dX6_count_15 ?_
    exact g_iretR X h dX6_count_16

theorem mX6_count {l : Launch} {D : va_G} {cA : Nat → ClassId} {r : Nat → Nat} {v : gV} {x1 : Int32} {xr : Int32} {v' : gV} (h : fX6_count v x1 = some (xr, v')) : Ct l D (tysM cA) (shM cA r) 19 r (ZM r) yX6_count cX6_count 2 (some .int) rmX6_count [.ref (r 0), .int x1] v (some (.int xr)) v' := ct_of plX6 ZM_ok (Nat.le_of_ble_eq_true rfl) rfl (fun _ X => bX6_count_0 X v x1 h)

def rmX6_isByte : Room := { frames := 1, cells := 0, slots := 0, locals := 22 }

set_option maxHeartbeats 4000000 in
set_option maxRecDepth 100000 in
theorem bX6_isByte_0 {l : Launch} {D : va_G} {cA : Nat → ClassId} {r : Nat → Nat} {G : gG} {xr : Int32} {v' : gV} (X : XM l D cA r RX6 cX6_isByte 1 (some .boolean) rmX6_isByte (some (.int xr)) v' G) (v : gV) (x0 : Int32) (h : fX6_isByte v x0 = some (xr, v')) : G v [(0, .int x0)] 0 [] := by
  unfold fX6_isByte at h
  refine g_iload_n X dX6_isByte_0 rfl 0 rfl ?_
  refine g_iconst X 0 dX6_isByte_1 (by decide) ?_
  refine g_sipush X 255 dX6_isByte_2 (by decide) ?_
  obtain ⟨y1, v2, hc3, h⟩ := gB_inv h
  refine g_callS X (st := []) (st' := [.int y1]) kcX6_in ktX6_in kl6_78 (⟨rfl, rfl, by decide, by decide⟩) (mX6_in hc3) rfl rfl (Nat.le_of_ble_eq_true rfl) rfl dX6_isByte_5 ?_
  obtain ⟨c, h⟩ := gGd h
  exact g_zretR X c h dX6_isByte_8

theorem mX6_isByte {l : Launch} {D : va_G} {cA : Nat → ClassId} {r : Nat → Nat} {v : gV} {x0 : Int32} {xr : Int32} {v' : gV} (h : fX6_isByte v x0 = some (xr, v')) : Ct l D (tysM cA) (shM cA r) 19 r (ZM r) yX6_isByte cX6_isByte 1 (some .boolean) rmX6_isByte [.int x0] v (some (.int xr)) v' := ct_of plX6 ZM_ok (Nat.le_of_ble_eq_true rfl) rfl (fun _ X => bX6_isByte_0 X v x0 h)

def rmX6_feed : Room := { frames := 2, cells := 0, slots := 0, locals := 42 }

set_option maxHeartbeats 4000000 in
set_option maxRecDepth 100000 in
theorem bX6_feed_125 {l : Launch} {D : va_G} {cA : Nat → ClassId} {r : Nat → Nat} {G : gG} {xr : Int32} {v' : gV} {k68 : gV → Int32 → Int32 → Int32 → Int32 → Int32 → Int32 → Int32 → Option (Int32 × gV)} (X : XM l D cA r RX6 cX6_feed 8 (some .int) rmX6_feed (some (.int xr)) v' G) (K68 : ∀ (v : gV) (x1 : Int32) (x2 : Int32) (x3 : Int32) (x4 : Int32) (x5 : Int32) (x6 : Int32) (x7 : Int32), k68 v x1 x2 x3 x4 x5 x6 x7 = some (xr, v') → G v [(0, .ref (r 0)), (1, .int x1), (2, .int x2), (3, .int x3), (4, .int x4), (5, .int x5), (6, .int x6), (7, .int x7)] 68 []) (v : gV) (x1 : Int32) (x2 : Int32) (x3 : Int32) (x4 : Int32) (x5 : Int32) (x6 : Int32) (x7 : Int32) (s1 : Int32) (s2 : Int32) (h : fX6_feed_125 k68 v x1 x2 x3 x4 x5 x6 x7 s1 s2 = some (xr, v')) : G v [(0, .ref (r 0)), (1, .int x1), (2, .int x2), (3, .int x3), (4, .int x4), (5, .int x5), (6, .int x6), (7, .int x7)] 125 [.int s2, .int s1, .ref (r 6)] := by
  unfold fX6_feed_125 at h
  obtain ⟨c, h⟩ := gGd h
  refine g_iast X hNM_6 (shM_6) rfl (gin_in c) dX6_feed_125 ?_
  refine g_aload_n X dX6_feed_126 rfl 0 rfl ?_
  refine g_dup X dX6_feed_127 rfl ?_
  refine g_get X fl6_68 hNM_0 (shM_0 _) rfl dX6_feed_128 ?_
  refine g_iconst X 1 dX6_feed_131 (by decide) ?_
  refine g_iadd X dX6_feed_132 ?_
  refine g_put X (fsM6 r) fp6_68 hNM_0 (shM_0) (fun _ => rfl) (Nat.le_of_ble_eq_true rfl) dX6_feed_133 ?_
  refine g_iinc X (x7 + 1) [(7, .int (x7 + 1)), (0, .ref (r 0)), (1, .int x1), (2, .int x2), (3, .int x3), (4, .int x4), (5, .int x5), (6, .int x6)] dX6_feed_136 7 rfl rfl (by decide) rfl ?_
  refine g_goto X 68 dX6_feed_139 (by decide) ?_
  refine g_sub X [1, 2, 3, 4, 5, 6, 7, 0] (ls' := [(0, .ref (r 0)), (1, .int x1), (2, .int x2), (3, .int x3), (4, .int x4), (5, .int x5), (6, .int x6), (7, .int (x7 + 1))]) rfl ?_
  exact K68 _ _ _ _ _ _ _ _  h

set_option maxHeartbeats 4000000 in
set_option maxRecDepth 100000 in
theorem bX6_feed_68 {l : Launch} {D : va_G} {cA : Nat → ClassId} {r : Nat → Nat} {G : gG} {xr : Int32} {v' : gV} (X : XM l D cA r RX6 cX6_feed 8 (some .int) rmX6_feed (some (.int xr)) v' G) : ∀ (n : Nat) (v : gV) (x1 : Int32) (x2 : Int32) (x3 : Int32) (x4 : Int32) (x5 : Int32) (x6 : Int32) (x7 : Int32), fX6_feed_68 n v x1 x2 x3 x4 x5 x6 x7 = some (xr, v') → G v [(0, .ref (r 0)), (1, .int x1), (2, .int x2), (3, .int x3), (4, .int x4), (5, .int x5), (6, .int x6), (7, .int x7)] 68 [] := by
  intro n
  induction n with
  | zero => intro v x1 x2 x3 x4 x5 x6 x7 h; rw [fX6_feed_68] at h; cases h
  | succ n ih =>
    intro v x1 x2 x3 x4 x5 x6 x7 h
    rw [fX6_feed_68] at h
    refine g_iload X dX6_feed_68 7 rfl ?_
    refine g_iload_n X dX6_feed_70 rfl 1 rfl ?_
    refine g_icmp_ge X 142 dX6_feed_71 (by decide) (fun c => ?_) (fun c => ?_)
    · replace h := gTr c h
      refine g_aload_n X dX6_feed_142 rfl 0 rfl ?_
      refine g_get X fl6_68 hNM_0 (shM_0 _) rfl dX6_feed_143 ?_
      exact g_iretR X h dX6_feed_146
    · replace h := gF c h
      refine g_aload_n X dX6_feed_74 rfl 0 rfl ?_
      refine g_get X fl6_29 hNM_0 (shM_0 _) rfl dX6_feed_75 ?_
      refine g_aload_n X dX6_feed_78 rfl 0 rfl ?_
      refine g_get X fl6_68 hNM_0 (shM_0 _) rfl dX6_feed_79 ?_
      refine g_iload X dX6_feed_82 7 rfl ?_
      refine g_if_ne X 91 dX6_feed_84 (by decide) (fun c => ?_) (fun c => ?_)
      · replace h := gF c h
        refine g_iload X dX6_feed_91 7 rfl ?_
        refine g_iconst X 1 dX6_feed_93 (by decide) ?_
        refine g_icmp_ne X 101 dX6_feed_94 (by decide) (fun c => ?_) (fun c => ?_)
        · replace h := gF c h
          refine g_iload X dX6_feed_101 7 rfl ?_
          refine g_iconst X 2 dX6_feed_103 (by decide) ?_
          refine g_icmp_ne X 112 dX6_feed_104 (by decide) (fun c => ?_) (fun c => ?_)
          · replace h := gF c h
            refine g_iload X dX6_feed_112 7 rfl ?_
            refine g_iconst X 3 dX6_feed_114 (by decide) ?_
            refine g_icmp_ne X 123 dX6_feed_115 (by decide) (fun c => ?_) (fun c => ?_)
            · replace h := gF c h
              refine g_iload X dX6_feed_123 6 rfl ?_
              exact bX6_feed_125 X ih _ _ _ _ _ _ _ _ _ _  h
            · replace h := gTr c h
              refine g_iload X dX6_feed_118 5 rfl ?_
              refine g_goto X 125 dX6_feed_120 (by decide) ?_
              exact bX6_feed_125 X ih _ _ _ _ _ _ _ _ _ _  h
          · replace h := gTr c h
            refine g_iload X dX6_feed_107 4 rfl ?_
            refine g_goto X 125 dX6_feed_109 (by decide) ?_
            exact bX6_feed_125 X ih _ _ _ _ _ _ _ _ _ _  h
        · replace h := gTr c h
          refine g_iload_n X dX6_feed_97 rfl 3 rfl ?_
          refine g_goto X 125 dX6_feed_98 (by decide) ?_
          exact bX6_feed_125 X ih _ _ _ _ _ _ _ _ _ _  h
      · replace h := gTr c h
        refine g_iload_n X dX6_feed_87 rfl 2 rfl ?_
        refine g_goto X 125 dX6_feed_88 (by decide) ?_
        exact bX6_feed_125 X ih _ _ _ _ _ _ _ _ _ _  h

set_option maxHeartbeats 4000000 in
set_option maxRecDepth 100000 in
theorem bX6_feed_0 {l : Launch} {D : va_G} {cA : Nat → ClassId} {r : Nat → Nat} {G : gG} {xr : Int32} {v' : gV} (X : XM l D cA r RX6 cX6_feed 8 (some .int) rmX6_feed (some (.int xr)) v' G) (v : gV) (x1 : Int32) (x2 : Int32) (x3 : Int32) (x4 : Int32) (x5 : Int32) (x6 : Int32) (h : fX6_feed v x1 x2 x3 x4 x5 x6 = some (xr, v')) : G v [(0, .ref (r 0)), (1, .int x1), (2, .int x2), (3, .int x3), (4, .int x4), (5, .int x5), (6, .int x6)] 0 [] := by
  unfold fX6_feed at h
  refine g_iload_n X dX6_feed_0 rfl 1 rfl ?_
  refine g_iconst X 1 dX6_feed_1 (by decide) ?_
  refine g_iconst X 5 dX6_feed_2 (by decide) ?_
  obtain ⟨y1, v2, hc3, h⟩ := gB_inv h
  refine g_callS X (st := []) (st' := [.int y1]) kcX6_in ktX6_in kl6_78 (⟨rfl, rfl, by decide, by decide⟩) (mX6_in hc3) rfl rfl (Nat.le_of_ble_eq_true rfl) rfl dX6_feed_3 ?_
  refine g_if_eq X 47 dX6_feed_6 (by decide) (fun c => ?_) (fun c => ?_)
  · replace h := gTr c h
    refine g_bipush X (-2) dX6_feed_47 (by decide) ?_
    exact g_iretR X h dX6_feed_49
  · replace h := gF c h
    refine g_iload_n X dX6_feed_9 rfl 2 rfl ?_
    obtain ⟨y4, v5, hc6, h⟩ := gB_inv h
    refine g_callS X (st := []) (st' := [.int y4]) kcX6_isByte ktX6_isByte kl6_88 (⟨rfl, rfl, by decide, by decide⟩) (mX6_isByte hc6) rfl rfl (Nat.le_of_ble_eq_true rfl) rfl dX6_feed_10 ?_
    refine g_if_eq X 47 dX6_feed_13 (by decide) (fun c => ?_) (fun c => ?_)
    · replace h := gTr c h
      refine g_bipush X (-2) dX6_feed_47 (by decide) ?_
      exact g_iretR X h dX6_feed_49
    · replace h := gF c h
      refine g_iload_n X dX6_feed_16 rfl 3 rfl ?_
      obtain ⟨y7, v8, hc9, h⟩ := gB_inv h
      refine g_callS X (st := []) (st' := [.int y7]) kcX6_isByte ktX6_isByte kl6_88 (⟨rfl, rfl, by decide, by decide⟩) (mX6_isByte hc9) rfl rfl (Nat.le_of_ble_eq_true rfl) rfl dX6_feed_17 ?_
      refine g_if_eq X 47 dX6_feed_20 (by decide) (fun c => ?_) (fun c => ?_)
      · replace h := gTr c h
        refine g_bipush X (-2) dX6_feed_47 (by decide) ?_
        exact g_iretR X h dX6_feed_49
      · replace h := gF c h
        refine g_iload X dX6_feed_23 4 rfl ?_
        obtain ⟨y10, v11, hc12, h⟩ := gB_inv h
        refine g_callS X (st := []) (st' := [.int y10]) kcX6_isByte ktX6_isByte kl6_88 (⟨rfl, rfl, by decide, by decide⟩) (mX6_isByte hc12) rfl rfl (Nat.le_of_ble_eq_true rfl) rfl dX6_feed_25 ?_
        refine g_if_eq X 47 dX6_feed_28 (by decide) (fun c => ?_) (fun c => ?_)
        · replace h := gTr c h
          refine g_bipush X (-2) dX6_feed_47 (by decide) ?_
          exact g_iretR X h dX6_feed_49
        · replace h := gF c h
          refine g_iload X dX6_feed_31 5 rfl ?_
          obtain ⟨y13, v14, hc15, h⟩ := gB_inv h
          refine g_callS X (st := []) (st' := [.int y13]) kcX6_isByte ktX6_isByte kl6_88 (⟨rfl, rfl, by decide, by decide⟩) (mX6_isByte hc15) rfl rfl (Nat.le_of_ble_eq_true rfl) rfl dX6_feed_33 ?_
          refine g_if_eq X 47 dX6_feed_36 (by decide) (fun c => ?_) (fun c => ?_)
          · replace h := gTr c h
            refine g_bipush X (-2) dX6_feed_47 (by decide) ?_
            exact g_iretR X h dX6_feed_49
          · replace h := gF c h
            refine g_iload X dX6_feed_39 6 rfl ?_
            obtain ⟨y16, v17, hc18, h⟩ := gB_inv h
            refine g_callS X (st := []) (st' := [.int y16]) kcX6_isByte ktX6_isByte kl6_88 (⟨rfl, rfl, by decide, by decide⟩) (mX6_isByte hc18) rfl rfl (Nat.le_of_ble_eq_true rfl) rfl dX6_feed_41 ?_
            refine g_if_ne X 50 dX6_feed_44 (by decide) (fun c => ?_) (fun c => ?_)
            · replace h := gF c h
              refine g_aload_n X dX6_feed_50 rfl 0 rfl ?_
              refine g_get X fl6_68 hNM_0 (shM_0 _) rfl dX6_feed_51 ?_
              refine g_iload_n X dX6_feed_54 rfl 1 rfl ?_
              refine g_iadd X dX6_feed_55 ?_
              refine g_sipush X 160 dX6_feed_56 (by decide) ?_
              refine g_icmp_le X 65 dX6_feed_59 (by decide) (fun c => ?_) (fun c => ?_)
              · replace h := gTr c h
                refine g_iconst X 0 dX6_feed_65 (by decide) ?_
                refine g_istore X (ls' := [(7, .int 0), (0, .ref (r 0)), (1, .int x1), (2, .int x2), (3, .int x3), (4, .int x4), (5, .int x5), (6, .int x6)]) dX6_feed_66 (by decide) rfl ?_
                refine g_sub X [1, 2, 3, 4, 5, 6, 7, 0] (ls' := [(0, .ref (r 0)), (1, .int x1), (2, .int x2), (3, .int x3), (4, .int x4), (5, .int x5), (6, .int x6), (7, .int 0)]) rfl ?_
                exact bX6_feed_68 X  _ _ _ _ _ _ _ _ _  h
              · replace h := gF c h
                refine g_bipush X (-4) dX6_feed_62 (by decide) ?_
                exact g_iretR X h dX6_feed_64
            · replace h := gTr c h
              refine g_bipush X (-2) dX6_feed_47 (by decide) ?_
              exact g_iretR X h dX6_feed_49

theorem mX6_feed {l : Launch} {D : va_G} {cA : Nat → ClassId} {r : Nat → Nat} {v : gV} {x1 : Int32} {x2 : Int32} {x3 : Int32} {x4 : Int32} {x5 : Int32} {x6 : Int32} {xr : Int32} {v' : gV} (h : fX6_feed v x1 x2 x3 x4 x5 x6 = some (xr, v')) : Ct l D (tysM cA) (shM cA r) 19 r (ZM r) yX6_feed cX6_feed 8 (some .int) rmX6_feed [.ref (r 0), .int x1, .int x2, .int x3, .int x4, .int x5, .int x6] v (some (.int xr)) v' := ct_of plX6 ZM_ok (Nat.le_of_ble_eq_true rfl) rfl (fun _ X => bX6_feed_0 X v x1 x2 x3 x4 x5 x6 h)

def rmX6_wordFrom : Room := { frames := 0, cells := 0, slots := 0, locals := 0 }

set_option maxHeartbeats 4000000 in
set_option maxRecDepth 100000 in
theorem bX6_wordFrom_80 {l : Launch} {D : va_G} {cA : Nat → ClassId} {r : Nat → Nat} {G : gG} {xr : Int32} {v' : gV} {k2 : gV → Int32 → Int32 → Int32 → Option (Int32 × gV)} {k26 : gV → Int32 → Int32 → Int32 → Int32 → Int32 → Option (Int32 × gV)} (X : XM l D cA r RX6 cX6_wordFrom 6 (some .int) rmX6_wordFrom (some (.int xr)) v' G) (K2 : ∀ (v : gV) (x1 : Int32) (x2 : Int32) (x3 : Int32), k2 v x1 x2 x3 = some (xr, v') → G v [(0, .ref (r 0)), (1, .int x1), (2, .int x2), (3, .int x3)] 2 []) (K26 : ∀ (v : gV) (x1 : Int32) (x2 : Int32) (x3 : Int32) (x4 : Int32) (x5 : Int32), k26 v x1 x2 x3 x4 x5 = some (xr, v') → G v [(0, .ref (r 0)), (1, .int x1), (2, .int x2), (3, .int x3), (4, .int x4), (5, .int x5)] 26 []) (v : gV) (x1 : Int32) (x2 : Int32) (x3 : Int32) (x5 : Int32) (s0 : Int32) (h : fX6_wordFrom_80 k2 k26 v x1 x2 x3 x5 s0 = some (xr, v')) : G v [(0, .ref (r 0)), (1, .int x1), (2, .int x2), (3, .int x3), (5, .int x5)] 80 [.int s0] := by
  unfold fX6_wordFrom_80 at h
  refine g_istore X (ls' := [(4, .int s0), (0, .ref (r 0)), (1, .int x1), (2, .int x2), (3, .int x3), (5, .int x5)]) dX6_wordFrom_80 (by decide) rfl ?_
  refine g_iinc X (x5 + 1) [(5, .int (x5 + 1)), (4, .int s0), (0, .ref (r 0)), (1, .int x1), (2, .int x2), (3, .int x3)] dX6_wordFrom_82 5 rfl rfl (by decide) rfl ?_
  refine g_goto X 26 dX6_wordFrom_85 (by decide) ?_
  refine g_sub X [2, 3, 4, 5, 1, 0] (ls' := [(0, .ref (r 0)), (1, .int x1), (2, .int x2), (3, .int x3), (4, .int s0), (5, .int (x5 + 1))]) rfl ?_
  exact K26 _ _ _ _ _ _  h

set_option maxHeartbeats 4000000 in
set_option maxRecDepth 100000 in
theorem bX6_wordFrom_72 {l : Launch} {D : va_G} {cA : Nat → ClassId} {r : Nat → Nat} {G : gG} {xr : Int32} {v' : gV} {k2 : gV → Int32 → Int32 → Int32 → Option (Int32 × gV)} {k26 : gV → Int32 → Int32 → Int32 → Int32 → Int32 → Option (Int32 × gV)} (X : XM l D cA r RX6 cX6_wordFrom 6 (some .int) rmX6_wordFrom (some (.int xr)) v' G) (K2 : ∀ (v : gV) (x1 : Int32) (x2 : Int32) (x3 : Int32), k2 v x1 x2 x3 = some (xr, v') → G v [(0, .ref (r 0)), (1, .int x1), (2, .int x2), (3, .int x3)] 2 []) (K26 : ∀ (v : gV) (x1 : Int32) (x2 : Int32) (x3 : Int32) (x4 : Int32) (x5 : Int32), k26 v x1 x2 x3 x4 x5 = some (xr, v') → G v [(0, .ref (r 0)), (1, .int x1), (2, .int x2), (3, .int x3), (4, .int x4), (5, .int x5)] 26 []) (v : gV) (x1 : Int32) (x2 : Int32) (x3 : Int32) (x5 : Int32) (s0 : Int32) (s1 : Int32) (h : fX6_wordFrom_72 k2 k26 v x1 x2 x3 x5 s0 s1 = some (xr, v')) : G v [(0, .ref (r 0)), (1, .int x1), (2, .int x2), (3, .int x3), (5, .int x5)] 72 [.int s1, .int s0] := by
  unfold fX6_wordFrom_72 at h
  refine g_icmp_ne X 79 dX6_wordFrom_72 (by decide) (fun c => ?_) (fun c => ?_)
  · replace h := gF c h
    refine g_iconst X 0 dX6_wordFrom_79 (by decide) ?_
    exact bX6_wordFrom_80 X K2 K26 _ _ _ _ _ _  h
  · replace h := gTr c h
    refine g_iconst X 1 dX6_wordFrom_75 (by decide) ?_
    refine g_goto X 80 dX6_wordFrom_76 (by decide) ?_
    exact bX6_wordFrom_80 X K2 K26 _ _ _ _ _ _  h

set_option maxHeartbeats 4000000 in
set_option maxRecDepth 100000 in
theorem bX6_wordFrom_88 {l : Launch} {D : va_G} {cA : Nat → ClassId} {r : Nat → Nat} {G : gG} {xr : Int32} {v' : gV} {k2 : gV → Int32 → Int32 → Int32 → Option (Int32 × gV)} (X : XM l D cA r RX6 cX6_wordFrom 6 (some .int) rmX6_wordFrom (some (.int xr)) v' G) (K2 : ∀ (v : gV) (x1 : Int32) (x2 : Int32) (x3 : Int32), k2 v x1 x2 x3 = some (xr, v') → G v [(0, .ref (r 0)), (1, .int x1), (2, .int x2), (3, .int x3)] 2 []) (v : gV) (x1 : Int32) (x2 : Int32) (x3 : Int32) (x4 : Int32) (h : fX6_wordFrom_88 k2 v x1 x2 x3 x4 = some (xr, v')) : G v [(0, .ref (r 0)), (1, .int x1), (2, .int x2), (3, .int x3), (4, .int x4)] 88 [] := by
  unfold fX6_wordFrom_88 at h
  refine g_iload X dX6_wordFrom_88 4 rfl ?_
  refine g_if_eq X 95 dX6_wordFrom_90 (by decide) (fun c => ?_) (fun c => ?_)
  · replace h := gTr c h
    refine g_iinc X (x3 + 1) [(3, .int (x3 + 1)), (0, .ref (r 0)), (1, .int x1), (2, .int x2), (4, .int x4)] dX6_wordFrom_95 3 rfl rfl (by decide) rfl ?_
    refine g_goto X 2 dX6_wordFrom_98 (by decide) ?_
    refine g_sub X [1, 2, 3, 0] (ls' := [(0, .ref (r 0)), (1, .int x1), (2, .int x2), (3, .int (x3 + 1))]) rfl ?_
    exact K2 _ _ _ _  h
  · replace h := gF c h
    refine g_iload_n X dX6_wordFrom_93 rfl 3 rfl ?_
    exact g_iretR X h dX6_wordFrom_94

set_option maxHeartbeats 4000000 in
set_option maxRecDepth 100000 in
theorem bX6_wordFrom_26 {l : Launch} {D : va_G} {cA : Nat → ClassId} {r : Nat → Nat} {G : gG} {xr : Int32} {v' : gV} {k2 : gV → Int32 → Int32 → Int32 → Option (Int32 × gV)} (X : XM l D cA r RX6 cX6_wordFrom 6 (some .int) rmX6_wordFrom (some (.int xr)) v' G) (K2 : ∀ (v : gV) (x1 : Int32) (x2 : Int32) (x3 : Int32), k2 v x1 x2 x3 = some (xr, v') → G v [(0, .ref (r 0)), (1, .int x1), (2, .int x2), (3, .int x3)] 2 []) : ∀ (n : Nat) (v : gV) (x1 : Int32) (x2 : Int32) (x3 : Int32) (x4 : Int32) (x5 : Int32), fX6_wordFrom_26 k2 n v x1 x2 x3 x4 x5 = some (xr, v') → G v [(0, .ref (r 0)), (1, .int x1), (2, .int x2), (3, .int x3), (4, .int x4), (5, .int x5)] 26 [] := by
  intro n
  induction n with
  | zero => intro v x1 x2 x3 x4 x5 h; rw [fX6_wordFrom_26] at h; cases h
  | succ n ih =>
    intro v x1 x2 x3 x4 x5 h
    rw [fX6_wordFrom_26] at h
    refine g_iload X dX6_wordFrom_26 5 rfl ?_
    refine g_bipush X 8 dX6_wordFrom_28 (by decide) ?_
    refine g_icmp_ge X 88 dX6_wordFrom_30 (by decide) (fun c => ?_) (fun c => ?_)
    · replace h := gTr c h
      refine g_sub X [0, 1, 2, 3, 4] (ls' := [(0, .ref (r 0)), (1, .int x1), (2, .int x2), (3, .int x3), (4, .int x4)]) rfl ?_
      exact bX6_wordFrom_88 X K2 _ _ _ _ _  h
    · replace h := gF c h
      refine g_iload X dX6_wordFrom_33 4 rfl ?_
      refine g_if_eq X 88 dX6_wordFrom_35 (by decide) (fun c => ?_) (fun c => ?_)
      · replace h := gTr c h
        refine g_sub X [0, 1, 2, 3, 4] (ls' := [(0, .ref (r 0)), (1, .int x1), (2, .int x2), (3, .int x3), (4, .int x4)]) rfl ?_
        exact bX6_wordFrom_88 X K2 _ _ _ _ _  h
      · replace h := gF c h
        refine g_aload_n X dX6_wordFrom_38 rfl 0 rfl ?_
        refine g_get X fl6_53 hNM_0 (shM_0 _) rfl dX6_wordFrom_39 ?_
        refine g_bipush X 8 dX6_wordFrom_42 (by decide) ?_
        refine g_iload_n X dX6_wordFrom_44 rfl 3 rfl ?_
        refine g_imul X dX6_wordFrom_45 ?_
        refine g_iload X dX6_wordFrom_46 5 rfl ?_
        refine g_iadd X dX6_wordFrom_48 ?_
        obtain ⟨c, h⟩ := gGd h
        refine g_iald X hNM_14 (shM_14 _) rfl (gin_in c) dX6_wordFrom_49 ?_
        refine g_iload_n X dX6_wordFrom_50 rfl 1 rfl ?_
        refine g_iload X dX6_wordFrom_51 5 rfl ?_
        refine g_iadd X dX6_wordFrom_53 ?_
        refine g_iload_n X dX6_wordFrom_54 rfl 2 rfl ?_
        refine g_icmp_ge X 70 dX6_wordFrom_55 (by decide) (fun c => ?_) (fun c => ?_)
        · replace h := gTr c h
          refine g_bipush X 32 dX6_wordFrom_70 (by decide) ?_
          refine g_sub X [0, 1, 2, 3, 5] (ls' := [(0, .ref (r 0)), (1, .int x1), (2, .int x2), (3, .int x3), (5, .int x5)]) rfl ?_
          exact bX6_wordFrom_72 X K2 ih _ _ _ _ _ _ _  h
        · replace h := gF c h
          refine g_aload_n X dX6_wordFrom_58 rfl 0 rfl ?_
          refine g_get X fl6_29 hNM_0 (shM_0 _) rfl dX6_wordFrom_59 ?_
          refine g_iload_n X dX6_wordFrom_62 rfl 1 rfl ?_
          refine g_iload X dX6_wordFrom_63 5 rfl ?_
          refine g_iadd X dX6_wordFrom_65 ?_
          obtain ⟨c, h⟩ := gGd h
          refine g_iald X hNM_6 (shM_6 _) rfl (gin_in c) dX6_wordFrom_66 ?_
          refine g_goto X 72 dX6_wordFrom_67 (by decide) ?_
          refine g_sub X [0, 1, 2, 3, 5] (ls' := [(0, .ref (r 0)), (1, .int x1), (2, .int x2), (3, .int x3), (5, .int x5)]) rfl ?_
          exact bX6_wordFrom_72 X K2 ih _ _ _ _ _ _ _  h

set_option maxHeartbeats 4000000 in
set_option maxRecDepth 100000 in
theorem bX6_wordFrom_21 {l : Launch} {D : va_G} {cA : Nat → ClassId} {r : Nat → Nat} {G : gG} {xr : Int32} {v' : gV} {k2 : gV → Int32 → Int32 → Int32 → Option (Int32 × gV)} (X : XM l D cA r RX6 cX6_wordFrom 6 (some .int) rmX6_wordFrom (some (.int xr)) v' G) (K2 : ∀ (v : gV) (x1 : Int32) (x2 : Int32) (x3 : Int32), k2 v x1 x2 x3 = some (xr, v') → G v [(0, .ref (r 0)), (1, .int x1), (2, .int x2), (3, .int x3)] 2 []) (v : gV) (x1 : Int32) (x2 : Int32) (x3 : Int32) (s0 : Int32) (h : fX6_wordFrom_21 k2 v x1 x2 x3 s0 = some (xr, v')) : G v [(0, .ref (r 0)), (1, .int x1), (2, .int x2), (3, .int x3)] 21 [.int s0] := by
  unfold fX6_wordFrom_21 at h
  refine g_istore X (ls' := [(4, .int s0), (0, .ref (r 0)), (1, .int x1), (2, .int x2), (3, .int x3)]) dX6_wordFrom_21 (by decide) rfl ?_
  refine g_iconst X 0 dX6_wordFrom_23 (by decide) ?_
  refine g_istore X (ls' := [(5, .int 0), (4, .int s0), (0, .ref (r 0)), (1, .int x1), (2, .int x2), (3, .int x3)]) dX6_wordFrom_24 (by decide) rfl ?_
  refine g_sub X [2, 3, 4, 5, 1, 0] (ls' := [(0, .ref (r 0)), (1, .int x1), (2, .int x2), (3, .int x3), (4, .int s0), (5, .int 0)]) rfl ?_
  exact bX6_wordFrom_26 X K2 _ _ _ _ _ _ _  h

set_option maxHeartbeats 4000000 in
set_option maxRecDepth 100000 in
theorem bX6_wordFrom_2 {l : Launch} {D : va_G} {cA : Nat → ClassId} {r : Nat → Nat} {G : gG} {xr : Int32} {v' : gV} (X : XM l D cA r RX6 cX6_wordFrom 6 (some .int) rmX6_wordFrom (some (.int xr)) v' G) : ∀ (n : Nat) (v : gV) (x1 : Int32) (x2 : Int32) (x3 : Int32), fX6_wordFrom_2 n v x1 x2 x3 = some (xr, v') → G v [(0, .ref (r 0)), (1, .int x1), (2, .int x2), (3, .int x3)] 2 [] := by
  intro n
  induction n with
  | zero => intro v x1 x2 x3 h; rw [fX6_wordFrom_2] at h; cases h
  | succ n ih =>
    intro v x1 x2 x3 h
    rw [fX6_wordFrom_2] at h
    refine g_iload_n X dX6_wordFrom_2 rfl 3 rfl ?_
    refine g_bipush X 12 dX6_wordFrom_3 (by decide) ?_
    refine g_icmp_ge X 101 dX6_wordFrom_5 (by decide) (fun c => ?_) (fun c => ?_)
    · replace h := gTr c h
      refine g_bipush X 12 dX6_wordFrom_101 (by decide) ?_
      exact g_iretR X h dX6_wordFrom_103
    · replace h := gF c h
      refine g_iload_n X dX6_wordFrom_8 rfl 2 rfl ?_
      refine g_iload_n X dX6_wordFrom_9 rfl 1 rfl ?_
      refine g_isub X dX6_wordFrom_10 ?_
      refine g_bipush X 8 dX6_wordFrom_11 (by decide) ?_
      refine g_icmp_gt X 20 dX6_wordFrom_13 (by decide) (fun c => ?_) (fun c => ?_)
      · replace h := gTr c h
        refine g_iconst X 0 dX6_wordFrom_20 (by decide) ?_
        exact bX6_wordFrom_21 X ih _ _ _ _ _  h
      · replace h := gF c h
        refine g_iconst X 1 dX6_wordFrom_16 (by decide) ?_
        refine g_goto X 21 dX6_wordFrom_17 (by decide) ?_
        exact bX6_wordFrom_21 X ih _ _ _ _ _  h

set_option maxHeartbeats 4000000 in
set_option maxRecDepth 100000 in
theorem bX6_wordFrom_0 {l : Launch} {D : va_G} {cA : Nat → ClassId} {r : Nat → Nat} {G : gG} {xr : Int32} {v' : gV} (X : XM l D cA r RX6 cX6_wordFrom 6 (some .int) rmX6_wordFrom (some (.int xr)) v' G) (v : gV) (x1 : Int32) (x2 : Int32) (h : fX6_wordFrom v x1 x2 = some (xr, v')) : G v [(0, .ref (r 0)), (1, .int x1), (2, .int x2)] 0 [] := by
  unfold fX6_wordFrom at h
  refine g_iconst X 0 dX6_wordFrom_0 (by decide) ?_
  refine g_istore_n X (ls' := [(3, .int 0), (0, .ref (r 0)), (1, .int x1), (2, .int x2)]) dX6_wordFrom_1 rfl (by decide) rfl ?_
  refine g_sub X [1, 2, 3, 0] (ls' := [(0, .ref (r 0)), (1, .int x1), (2, .int x2), (3, .int 0)]) rfl ?_
  exact bX6_wordFrom_2 X  _ _ _ _ _  h

theorem mX6_wordFrom {l : Launch} {D : va_G} {cA : Nat → ClassId} {r : Nat → Nat} {v : gV} {x1 : Int32} {x2 : Int32} {xr : Int32} {v' : gV} (h : fX6_wordFrom v x1 x2 = some (xr, v')) : Ct l D (tysM cA) (shM cA r) 19 r (ZM r) yX6_wordFrom cX6_wordFrom 6 (some .int) rmX6_wordFrom [.ref (r 0), .int x1, .int x2] v (some (.int xr)) v' := ct_of plX6 ZM_ok (Nat.le_of_ble_eq_true rfl) rfl (fun _ X => bX6_wordFrom_0 X v x1 x2 h)

def rmX6_next : Room := { frames := 1, cells := 0, slots := 0, locals := 25 }

set_option maxHeartbeats 4000000 in
set_option maxRecDepth 100000 in
theorem bX6_next_39 {l : Launch} {D : va_G} {cA : Nat → ClassId} {r : Nat → Nat} {G : gG} {xr : Unit} {v' : gV} {k0 : gV → Option (Unit × gV)} (X : XM l D cA r RX6 cX6_next 3 none rmX6_next none v' G) (K0 : ∀ (v : gV) , k0 v  = some (xr, v') → G v [(0, .ref (r 0))] 0 []) (v : gV)  (h : fX6_next_39 k0 v  = some (xr, v')) : G v [(0, .ref (r 0))] 39 [] := by
  unfold fX6_next_39 at h
  refine g_aload_n X dX6_next_39 rfl 0 rfl ?_
  refine g_dup X dX6_next_40 rfl ?_
  refine g_get X fl6_92 hNM_0 (shM_0 _) rfl dX6_next_41 ?_
  refine g_iconst X 1 dX6_next_44 (by decide) ?_
  refine g_iadd X dX6_next_45 ?_
  refine g_put X (fsM6 r) fp6_92 hNM_0 (shM_0) (fun _ => rfl) (Nat.le_of_ble_eq_true rfl) dX6_next_46 ?_
  refine g_goto X 0 dX6_next_49 (by decide) ?_
  exact K0 _   h

set_option maxHeartbeats 4000000 in
set_option maxRecDepth 100000 in
theorem bX6_next_211 {l : Launch} {D : va_G} {cA : Nat → ClassId} {r : Nat → Nat} {G : gG} {xr : Unit} {v' : gV} (X : XM l D cA r RX6 cX6_next 3 none rmX6_next none v' G) (v : gV) (s1 : Int32) (h : fX6_next_211 v s1 = some (xr, v')) : G v [] 211 [.int s1, .ref (r 0)] := by
  unfold fX6_next_211 at h
  refine g_put X (fsM6 r) fp6_101 hNM_0 (shM_0) (fun _ => rfl) (Nat.le_of_ble_eq_true rfl) dX6_next_211 ?_
  refine g_goto X 403 dX6_next_214 (by decide) ?_
  exact g_vretR X h dX6_next_403

set_option maxHeartbeats 4000000 in
set_option maxRecDepth 100000 in
theorem bX6_next_195 {l : Launch} {D : va_G} {cA : Nat → ClassId} {r : Nat → Nat} {G : gG} {xr : Unit} {v' : gV} (X : XM l D cA r RX6 cX6_next 3 none rmX6_next none v' G) (v : gV) (x2 : Int32) (s1 : Int32) (h : fX6_next_195 v x2 s1 = some (xr, v')) : G v [(0, .ref (r 0)), (2, .int x2)] 195 [.int s1, .ref (r 0)] := by
  unfold fX6_next_195 at h
  refine g_put X (fsM6 r) fp6_98 hNM_0 (shM_0) (fun _ => rfl) (Nat.le_of_ble_eq_true rfl) dX6_next_195 ?_
  refine g_aload_n X dX6_next_198 rfl 0 rfl ?_
  refine g_iload_n X dX6_next_199 rfl 1 rfl ?_
  refine g_iconst X 3 dX6_next_200 (by decide) ?_
  refine g_icmp_ge X 208 dX6_next_201 (by decide) (fun c => ?_) (fun c => ?_)
  · replace h := gTr c h
    refine g_iload_n X dX6_next_208 rfl 1 rfl ?_
    refine g_iconst X 3 dX6_next_209 (by decide) ?_
    refine g_isub X dX6_next_210 ?_
    refine g_sub X [] (ls' := []) rfl ?_
    exact bX6_next_211 X  _ _  h
  · replace h := gF c h
    refine g_iload_n X dX6_next_204 rfl 1 rfl ?_
    refine g_goto X 211 dX6_next_205 (by decide) ?_
    refine g_sub X [] (ls' := []) rfl ?_
    exact bX6_next_211 X  _ _  h

set_option maxHeartbeats 4000000 in
set_option maxRecDepth 100000 in
theorem bX6_next_146 {l : Launch} {D : va_G} {cA : Nat → ClassId} {r : Nat → Nat} {G : gG} {xr : Unit} {v' : gV} (X : XM l D cA r RX6 cX6_next 3 none rmX6_next none v' G) (v : gV)  (h : fX6_next_146 v  = some (xr, v')) : G v [(0, .ref (r 0))] 146 [] := by
  unfold fX6_next_146 at h
  refine g_aload_n X dX6_next_146 rfl 0 rfl ?_
  refine g_aload_n X dX6_next_147 rfl 0 rfl ?_
  refine g_get X fl6_95 hNM_0 (shM_0 _) rfl dX6_next_148 ?_
  refine g_aload_n X dX6_next_151 rfl 0 rfl ?_
  refine g_get X fl6_92 hNM_0 (shM_0 _) rfl dX6_next_152 ?_
  obtain ⟨y13, v14, hc15, h⟩ := gB_inv h
  refine g_callV X (st := []) (st' := [.int y13]) kcX6_wordFrom kvX6_wordFrom kl6_104 (⟨rfl, rfl, by decide, by decide⟩) (mX6_wordFrom hc15) hNM_0 (shM_0 _) rfl rfl rfl (Nat.le_of_ble_eq_true rfl) rfl dX6_next_155 ?_
  refine g_istore_n X (ls' := [(2, .int y13), (0, .ref (r 0))]) dX6_next_158 rfl (by decide) rfl ?_
  refine g_aload_n X dX6_next_159 rfl 1 rfl ?_
  refine g_iload_n X dX6_next_160 rfl 0 rfl ?_
  refine g_iconst X 3 dX6_next_161 (by decide) ?_
  refine g_icmp_ge X 169 dX6_next_162 (by decide) (fun c => ?_) (fun c => ?_)
  · replace h := gTr c h
    refine g_iload_n X dX6_next_169 rfl 0 rfl ?_
    refine g_bipush X 9 dX6_next_170 (by decide) ?_
    refine g_icmp_ge X 179 dX6_next_172 (by decide) (fun c => ?_) (fun c => ?_)
    · replace h := gTr c h
      refine g_iload_n X dX6_next_179 rfl 0 rfl ?_
      refine g_bipush X 12 dX6_next_180 (by decide) ?_
      refine g_icmp_ne X 189 dX6_next_182 (by decide) (fun c => ?_) (fun c => ?_)
      · replace h := gF c h
        refine g_iconst X 4 dX6_next_189 (by decide) ?_
        refine g_iload_n X dX6_next_190 rfl 0 rfl ?_
        refine g_iadd X dX6_next_191 ?_
        refine g_bipush X 9 dX6_next_192 (by decide) ?_
        refine g_isub X dX6_next_194 ?_
        refine g_sub X [1, 0] (ls' := [(0, .ref (r 0)), (2, .int y13)]) rfl ?_
        exact bX6_next_195 X  _ _ _  h
      · replace h := gTr c h
        refine g_iconst X (-1) dX6_next_185 (by decide) ?_
        refine g_goto X 195 dX6_next_186 (by decide) ?_
        refine g_sub X [1, 0] (ls' := [(0, .ref (r 0)), (2, .int y13)]) rfl ?_
        exact bX6_next_195 X  _ _ _  h
    · replace h := gF c h
      refine g_iconst X 2 dX6_next_175 (by decide) ?_
      refine g_goto X 195 dX6_next_176 (by decide) ?_
      refine g_sub X [1, 0] (ls' := [(0, .ref (r 0)), (2, .int y13)]) rfl ?_
      exact bX6_next_195 X  _ _ _  h
  · replace h := gF c h
    refine g_iconst X 3 dX6_next_165 (by decide) ?_
    refine g_goto X 195 dX6_next_166 (by decide) ?_
    refine g_sub X [1, 0] (ls' := [(0, .ref (r 0)), (2, .int y13)]) rfl ?_
    exact bX6_next_195 X  _ _ _  h

set_option maxHeartbeats 4000000 in
set_option maxRecDepth 100000 in
theorem bX6_next_103 {l : Launch} {D : va_G} {cA : Nat → ClassId} {r : Nat → Nat} {G : gG} {xr : Unit} {v' : gV} (X : XM l D cA r RX6 cX6_next 3 none rmX6_next none v' G) : ∀ (n : Nat) (v : gV), fX6_next_103 n v  = some (xr, v') → G v [(0, .ref (r 0))] 103 [] := by
  intro n
  induction n with
  | zero => intro v  h; rw [fX6_next_103] at h; cases h
  | succ n ih =>
    intro v  h
    rw [fX6_next_103] at h
    refine g_aload_n X dX6_next_103 rfl 0 rfl ?_
    refine g_get X fl6_92 hNM_0 (shM_0 _) rfl dX6_next_104 ?_
    refine g_aload_n X dX6_next_107 rfl 0 rfl ?_
    refine g_get X fl6_68 hNM_0 (shM_0 _) rfl dX6_next_108 ?_
    refine g_icmp_ge X 146 dX6_next_111 (by decide) (fun c => ?_) (fun c => ?_)
    · replace h := gTr c h
      exact bX6_next_146 X  _   h
    · replace h := gF c h
      refine g_aload_n X dX6_next_114 rfl 0 rfl ?_
      refine g_get X fl6_29 hNM_0 (shM_0 _) rfl dX6_next_115 ?_
      refine g_aload_n X dX6_next_118 rfl 0 rfl ?_
      refine g_get X fl6_92 hNM_0 (shM_0 _) rfl dX6_next_119 ?_
      obtain ⟨c, h⟩ := gGd h
      refine g_iald X hNM_6 (shM_6 _) rfl (gin_in c) dX6_next_122 ?_
      refine g_bipush X 97 dX6_next_123 (by decide) ?_
      refine g_bipush X 122 dX6_next_125 (by decide) ?_
      obtain ⟨y10, v11, hc12, h⟩ := gB_inv h
      refine g_callS X (st := []) (st' := [.int y10]) kcX6_in ktX6_in kl6_78 (⟨rfl, rfl, by decide, by decide⟩) (mX6_in hc12) rfl rfl (Nat.le_of_ble_eq_true rfl) rfl dX6_next_127 ?_
      refine g_if_eq X 146 dX6_next_130 (by decide) (fun c => ?_) (fun c => ?_)
      · replace h := gTr c h
        exact bX6_next_146 X  _   h
      · replace h := gF c h
        refine g_aload_n X dX6_next_133 rfl 0 rfl ?_
        refine g_dup X dX6_next_134 rfl ?_
        refine g_get X fl6_92 hNM_0 (shM_0 _) rfl dX6_next_135 ?_
        refine g_iconst X 1 dX6_next_138 (by decide) ?_
        refine g_iadd X dX6_next_139 ?_
        refine g_put X (fsM6 r) fp6_92 hNM_0 (shM_0) (fun _ => rfl) (Nat.le_of_ble_eq_true rfl) dX6_next_140 ?_
        refine g_goto X 103 dX6_next_143 (by decide) ?_
        exact ih _   h

set_option maxHeartbeats 4000000 in
set_option maxRecDepth 100000 in
theorem bX6_next_290 {l : Launch} {D : va_G} {cA : Nat → ClassId} {r : Nat → Nat} {G : gG} {xr : Unit} {v' : gV} {k230 : gV → Int32 → Option (Unit × gV)} (X : XM l D cA r RX6 cX6_next 3 none rmX6_next none v' G) (K230 : ∀ (v : gV) (x2 : Int32), k230 v x2 = some (xr, v') → G v [(0, .ref (r 0)), (2, .int x2)] 230 []) (v : gV) (x2 : Int32) (s1 : Int32) (h : fX6_next_290 k230 v x2 s1 = some (xr, v')) : G v [(0, .ref (r 0)), (2, .int x2)] 290 [.int s1, .ref (r 0)] := by
  unfold fX6_next_290 at h
  refine g_put X (fsM6 r) fp6_101 hNM_0 (shM_0) (fun _ => rfl) (Nat.le_of_ble_eq_true rfl) dX6_next_290 ?_
  refine g_iinc X (x2 + 1) [(2, .int (x2 + 1)), (0, .ref (r 0))] dX6_next_293 1 rfl rfl (by decide) rfl ?_
  refine g_aload_n X dX6_next_296 rfl 1 rfl ?_
  refine g_dup X dX6_next_297 rfl ?_
  refine g_get X fl6_92 hNM_0 (shM_0 _) rfl dX6_next_298 ?_
  refine g_iconst X 1 dX6_next_301 (by decide) ?_
  refine g_iadd X dX6_next_302 ?_
  refine g_put X (fsM6 r) fp6_92 hNM_0 (shM_0) (fun _ => rfl) (Nat.le_of_ble_eq_true rfl) dX6_next_303 ?_
  refine g_goto X 230 dX6_next_306 (by decide) ?_
  refine g_sub X [1, 0] (ls' := [(0, .ref (r 0)), (2, .int (x2 + 1))]) rfl ?_
  exact K230 _ _  h

set_option maxHeartbeats 4000000 in
set_option maxRecDepth 100000 in
theorem bX6_next_320 {l : Launch} {D : va_G} {cA : Nat → ClassId} {r : Nat → Nat} {G : gG} {xr : Unit} {v' : gV} (X : XM l D cA r RX6 cX6_next 3 none rmX6_next none v' G) (v : gV) (s1 : Int32) (h : fX6_next_320 v s1 = some (xr, v')) : G v [] 320 [.int s1, .ref (r 0)] := by
  unfold fX6_next_320 at h
  refine g_put X (fsM6 r) fp6_98 hNM_0 (shM_0) (fun _ => rfl) (Nat.le_of_ble_eq_true rfl) dX6_next_320 ?_
  refine g_goto X 403 dX6_next_323 (by decide) ?_
  exact g_vretR X h dX6_next_403

set_option maxHeartbeats 4000000 in
set_option maxRecDepth 100000 in
theorem bX6_next_309 {l : Launch} {D : va_G} {cA : Nat → ClassId} {r : Nat → Nat} {G : gG} {xr : Unit} {v' : gV} (X : XM l D cA r RX6 cX6_next 3 none rmX6_next none v' G) (v : gV) (x2 : Int32) (h : fX6_next_309 v x2 = some (xr, v')) : G v [(0, .ref (r 0)), (2, .int x2)] 309 [] := by
  unfold fX6_next_309 at h
  refine g_aload_n X dX6_next_309 rfl 0 rfl ?_
  refine g_iload_n X dX6_next_310 rfl 1 rfl ?_
  refine g_iconst X 4 dX6_next_311 (by decide) ?_
  refine g_icmp_le X 319 dX6_next_312 (by decide) (fun c => ?_) (fun c => ?_)
  · replace h := gTr c h
    refine g_iconst X 1 dX6_next_319 (by decide) ?_
    refine g_sub X [] (ls' := []) rfl ?_
    exact bX6_next_320 X  _ _  h
  · replace h := gF c h
    refine g_iconst X (-1) dX6_next_315 (by decide) ?_
    refine g_goto X 320 dX6_next_316 (by decide) ?_
    refine g_sub X [] (ls' := []) rfl ?_
    exact bX6_next_320 X  _ _  h

set_option maxHeartbeats 4000000 in
set_option maxRecDepth 100000 in
theorem bX6_next_230 {l : Launch} {D : va_G} {cA : Nat → ClassId} {r : Nat → Nat} {G : gG} {xr : Unit} {v' : gV} (X : XM l D cA r RX6 cX6_next 3 none rmX6_next none v' G) : ∀ (n : Nat) (v : gV) (x2 : Int32), fX6_next_230 n v x2 = some (xr, v') → G v [(0, .ref (r 0)), (2, .int x2)] 230 [] := by
  intro n
  induction n with
  | zero => intro v x2 h; rw [fX6_next_230] at h; cases h
  | succ n ih =>
    intro v x2 h
    rw [fX6_next_230] at h
    refine g_aload_n X dX6_next_230 rfl 0 rfl ?_
    refine g_get X fl6_92 hNM_0 (shM_0 _) rfl dX6_next_231 ?_
    refine g_aload_n X dX6_next_234 rfl 0 rfl ?_
    refine g_get X fl6_68 hNM_0 (shM_0 _) rfl dX6_next_235 ?_
    refine g_icmp_ge X 309 dX6_next_238 (by decide) (fun c => ?_) (fun c => ?_)
    · replace h := gTr c h
      exact bX6_next_309 X  _ _  h
    · replace h := gF c h
      refine g_aload_n X dX6_next_241 rfl 0 rfl ?_
      refine g_get X fl6_29 hNM_0 (shM_0 _) rfl dX6_next_242 ?_
      refine g_aload_n X dX6_next_245 rfl 0 rfl ?_
      refine g_get X fl6_92 hNM_0 (shM_0 _) rfl dX6_next_246 ?_
      obtain ⟨c, h⟩ := gGd h
      refine g_iald X hNM_6 (shM_6 _) rfl (gin_in c) dX6_next_249 ?_
      refine g_bipush X 48 dX6_next_250 (by decide) ?_
      refine g_bipush X 57 dX6_next_252 (by decide) ?_
      obtain ⟨y7, v8, hc9, h⟩ := gB_inv h
      refine g_callS X (st := []) (st' := [.int y7]) kcX6_in ktX6_in kl6_78 (⟨rfl, rfl, by decide, by decide⟩) (mX6_in hc9) rfl rfl (Nat.le_of_ble_eq_true rfl) rfl dX6_next_254 ?_
      refine g_if_eq X 309 dX6_next_257 (by decide) (fun c => ?_) (fun c => ?_)
      · replace h := gTr c h
        exact bX6_next_309 X  _ _  h
      · replace h := gF c h
        refine g_aload_n X dX6_next_260 rfl 0 rfl ?_
        refine g_iload_n X dX6_next_261 rfl 1 rfl ?_
        refine g_iconst X 4 dX6_next_262 (by decide) ?_
        refine g_icmp_ge X 289 dX6_next_263 (by decide) (fun c => ?_) (fun c => ?_)
        · replace h := gTr c h
          refine g_iconst X 0 dX6_next_289 (by decide) ?_
          exact bX6_next_290 X ih _ _ _  h
        · replace h := gF c h
          refine g_bipush X 10 dX6_next_266 (by decide) ?_
          refine g_aload_n X dX6_next_268 rfl 0 rfl ?_
          refine g_get X fl6_101 hNM_0 (shM_0 _) rfl dX6_next_269 ?_
          refine g_imul X dX6_next_272 ?_
          refine g_aload_n X dX6_next_273 rfl 0 rfl ?_
          refine g_get X fl6_29 hNM_0 (shM_0 _) rfl dX6_next_274 ?_
          refine g_aload_n X dX6_next_277 rfl 0 rfl ?_
          refine g_get X fl6_92 hNM_0 (shM_0 _) rfl dX6_next_278 ?_
          obtain ⟨c, h⟩ := gGd h
          refine g_iald X hNM_6 (shM_6 _) rfl (gin_in c) dX6_next_281 ?_
          refine g_iadd X dX6_next_282 ?_
          refine g_bipush X 48 dX6_next_283 (by decide) ?_
          refine g_isub X dX6_next_285 ?_
          refine g_goto X 290 dX6_next_286 (by decide) ?_
          exact bX6_next_290 X ih _ _ _  h

set_option maxHeartbeats 4000000 in
set_option maxRecDepth 100000 in
theorem bX6_next_390 {l : Launch} {D : va_G} {cA : Nat → ClassId} {r : Nat → Nat} {G : gG} {xr : Unit} {v' : gV} (X : XM l D cA r RX6 cX6_next 3 none rmX6_next none v' G) (v : gV) (s1 : Int32) (h : fX6_next_390 v s1 = some (xr, v')) : G v [(0, .ref (r 0))] 390 [.int s1, .ref (r 0)] := by
  unfold fX6_next_390 at h
  refine g_put X (fsM6 r) fp6_98 hNM_0 (shM_0) (fun _ => rfl) (Nat.le_of_ble_eq_true rfl) dX6_next_390 ?_
  refine g_aload_n X dX6_next_393 rfl 0 rfl ?_
  refine g_dup X dX6_next_394 rfl ?_
  refine g_get X fl6_92 hNM_0 (shM_0 _) rfl dX6_next_395 ?_
  refine g_iconst X 1 dX6_next_398 (by decide) ?_
  refine g_iadd X dX6_next_399 ?_
  refine g_put X (fsM6 r) fp6_92 hNM_0 (shM_0) (fun _ => rfl) (Nat.le_of_ble_eq_true rfl) dX6_next_400 ?_
  exact g_vretR X h dX6_next_403

set_option maxHeartbeats 4000000 in
set_option maxRecDepth 100000 in
theorem bX6_next_379 {l : Launch} {D : va_G} {cA : Nat → ClassId} {r : Nat → Nat} {G : gG} {xr : Unit} {v' : gV} (X : XM l D cA r RX6 cX6_next 3 none rmX6_next none v' G) (v : gV) (x1 : Int32) (s0 : Int32) (h : fX6_next_379 v x1 s0 = some (xr, v')) : G v [(0, .ref (r 0)), (1, .int x1)] 379 [.int s0] := by
  unfold fX6_next_379 at h
  refine g_istore_n X (ls' := [(2, .int s0), (0, .ref (r 0)), (1, .int x1)]) dX6_next_379 rfl (by decide) rfl ?_
  refine g_aload_n X dX6_next_380 rfl 1 rfl ?_
  refine g_iload_n X dX6_next_381 rfl 0 rfl ?_
  refine g_if_eq X 389 dX6_next_382 (by decide) (fun c => ?_) (fun c => ?_)
  · replace h := gTr c h
    refine g_iconst X (-1) dX6_next_389 (by decide) ?_
    refine g_sub X [1] (ls' := [(0, .ref (r 0))]) rfl ?_
    exact bX6_next_390 X  _ _  h
  · replace h := gF c h
    refine g_iload_n X dX6_next_385 rfl 2 rfl ?_
    refine g_goto X 390 dX6_next_386 (by decide) ?_
    refine g_sub X [1] (ls' := [(0, .ref (r 0))]) rfl ?_
    exact bX6_next_390 X  _ _  h

set_option maxHeartbeats 4000000 in
set_option maxRecDepth 100000 in
theorem bX6_next_374 {l : Launch} {D : va_G} {cA : Nat → ClassId} {r : Nat → Nat} {G : gG} {xr : Unit} {v' : gV} (X : XM l D cA r RX6 cX6_next 3 none rmX6_next none v' G) (v : gV) (x1 : Int32) (h : fX6_next_374 v x1 = some (xr, v')) : G v [(0, .ref (r 0)), (1, .int x1)] 374 [] := by
  unfold fX6_next_374 at h
  refine g_iconst X 1 dX6_next_374 (by decide) ?_
  refine g_goto X 379 dX6_next_375 (by decide) ?_
  exact bX6_next_379 X  _ _ _  h

set_option maxHeartbeats 4000000 in
set_option maxRecDepth 100000 in
theorem bX6_next_52 {l : Launch} {D : va_G} {cA : Nat → ClassId} {r : Nat → Nat} {G : gG} {xr : Unit} {v' : gV} (X : XM l D cA r RX6 cX6_next 3 none rmX6_next none v' G) (v : gV)  (h : fX6_next_52 v  = some (xr, v')) : G v [(0, .ref (r 0))] 52 [] := by
  unfold fX6_next_52 at h
  refine g_aload_n X dX6_next_52 rfl 0 rfl ?_
  refine g_aload_n X dX6_next_53 rfl 0 rfl ?_
  refine g_get X fl6_92 hNM_0 (shM_0 _) rfl dX6_next_54 ?_
  refine g_put X (fsM6 r) fp6_95 hNM_0 (shM_0) (fun _ => rfl) (Nat.le_of_ble_eq_true rfl) dX6_next_57 ?_
  refine g_aload_n X dX6_next_60 rfl 0 rfl ?_
  refine g_iconst X 0 dX6_next_61 (by decide) ?_
  refine g_put X (fsM6 r) fp6_98 hNM_0 (shM_0) (fun _ => rfl) (Nat.le_of_ble_eq_true rfl) dX6_next_62 ?_
  refine g_aload_n X dX6_next_65 rfl 0 rfl ?_
  refine g_iconst X 0 dX6_next_66 (by decide) ?_
  refine g_put X (fsM6 r) fp6_101 hNM_0 (shM_0) (fun _ => rfl) (Nat.le_of_ble_eq_true rfl) dX6_next_67 ?_
  refine g_aload_n X dX6_next_70 rfl 0 rfl ?_
  refine g_get X fl6_92 hNM_0 (shM_0 _) rfl dX6_next_71 ?_
  refine g_aload_n X dX6_next_74 rfl 0 rfl ?_
  refine g_get X fl6_68 hNM_0 (shM_0 _) rfl dX6_next_75 ?_
  refine g_icmp_ne X 82 dX6_next_78 (by decide) (fun c => ?_) (fun c => ?_)
  · replace h := gF c h
    refine g_aload_n X dX6_next_82 rfl 0 rfl ?_
    refine g_get X fl6_29 hNM_0 (shM_0 _) rfl dX6_next_83 ?_
    refine g_aload_n X dX6_next_86 rfl 0 rfl ?_
    refine g_get X fl6_92 hNM_0 (shM_0 _) rfl dX6_next_87 ?_
    obtain ⟨c, h⟩ := gGd h
    refine g_iald X hNM_6 (shM_6 _) rfl (gin_in c) dX6_next_90 ?_
    refine g_istore_n X (ls' := [(1, .int ((up1 (up1 (up1 v 0 22 (v 0 21)) 0 23 0) 0 24 0) 6 ((up1 (up1 (up1 v 0 22 (v 0 21)) 0 23 0) 0 24 0) 0 21).toNatClampNeg)), (0, .ref (r 0))]) dX6_next_91 rfl (by decide) rfl ?_
    refine g_iload_n X dX6_next_92 rfl 0 rfl ?_
    refine g_bipush X 97 dX6_next_93 (by decide) ?_
    refine g_bipush X 122 dX6_next_95 (by decide) ?_
    obtain ⟨y1, v2, hc3, h⟩ := gB_inv h
    refine g_callS X (st := []) (st' := [.int y1]) kcX6_in ktX6_in kl6_78 (⟨rfl, rfl, by decide, by decide⟩) (mX6_in hc3) rfl rfl (Nat.le_of_ble_eq_true rfl) rfl dX6_next_97 ?_
    refine g_if_eq X 217 dX6_next_100 (by decide) (fun c => ?_) (fun c => ?_)
    · replace h := gTr c h
      refine g_iload_n X dX6_next_217 rfl 0 rfl ?_
      refine g_bipush X 48 dX6_next_218 (by decide) ?_
      refine g_bipush X 57 dX6_next_220 (by decide) ?_
      obtain ⟨y4, v5, hc6, h⟩ := gB_inv h
      refine g_callS X (st := []) (st' := [.int y4]) kcX6_in ktX6_in kl6_78 (⟨rfl, rfl, by decide, by decide⟩) (mX6_in hc6) rfl rfl (Nat.le_of_ble_eq_true rfl) rfl dX6_next_222 ?_
      refine g_if_eq X 326 dX6_next_225 (by decide) (fun c => ?_) (fun c => ?_)
      · replace h := gTr c h
        refine g_iload_n X dX6_next_326 rfl 0 rfl ?_
        refine g_bipush X 40 dX6_next_327 (by decide) ?_
        refine g_icmp_eq X 374 dX6_next_329 (by decide) (fun c => ?_) (fun c => ?_)
        · replace h := gTr c h
          refine g_sub X [1, 0] (ls' := [(0, .ref (r 0)), (1, .int ((up1 (up1 (up1 v 0 22 (v 0 21)) 0 23 0) 0 24 0) 6 ((up1 (up1 (up1 v 0 22 (v 0 21)) 0 23 0) 0 24 0) 0 21).toNatClampNeg))]) rfl ?_
          exact bX6_next_374 X  _ _  h
        · replace h := gF c h
          refine g_iload_n X dX6_next_332 rfl 0 rfl ?_
          refine g_bipush X 41 dX6_next_333 (by decide) ?_
          refine g_icmp_eq X 374 dX6_next_335 (by decide) (fun c => ?_) (fun c => ?_)
          · replace h := gTr c h
            refine g_sub X [1, 0] (ls' := [(0, .ref (r 0)), (1, .int ((up1 (up1 (up1 v 0 22 (v 0 21)) 0 23 0) 0 24 0) 6 ((up1 (up1 (up1 v 0 22 (v 0 21)) 0 23 0) 0 24 0) 0 21).toNatClampNeg))]) rfl ?_
            exact bX6_next_374 X  _ _  h
          · replace h := gF c h
            refine g_iload_n X dX6_next_338 rfl 0 rfl ?_
            refine g_bipush X 59 dX6_next_339 (by decide) ?_
            refine g_icmp_eq X 374 dX6_next_341 (by decide) (fun c => ?_) (fun c => ?_)
            · replace h := gTr c h
              refine g_sub X [1, 0] (ls' := [(0, .ref (r 0)), (1, .int ((up1 (up1 (up1 v 0 22 (v 0 21)) 0 23 0) 0 24 0) 6 ((up1 (up1 (up1 v 0 22 (v 0 21)) 0 23 0) 0 24 0) 0 21).toNatClampNeg))]) rfl ?_
              exact bX6_next_374 X  _ _  h
            · replace h := gF c h
              refine g_iload_n X dX6_next_344 rfl 0 rfl ?_
              refine g_bipush X 43 dX6_next_345 (by decide) ?_
              refine g_icmp_eq X 374 dX6_next_347 (by decide) (fun c => ?_) (fun c => ?_)
              · replace h := gTr c h
                refine g_sub X [1, 0] (ls' := [(0, .ref (r 0)), (1, .int ((up1 (up1 (up1 v 0 22 (v 0 21)) 0 23 0) 0 24 0) 6 ((up1 (up1 (up1 v 0 22 (v 0 21)) 0 23 0) 0 24 0) 0 21).toNatClampNeg))]) rfl ?_
                exact bX6_next_374 X  _ _  h
              · replace h := gF c h
                refine g_iload_n X dX6_next_350 rfl 0 rfl ?_
                refine g_bipush X 45 dX6_next_351 (by decide) ?_
                refine g_icmp_eq X 374 dX6_next_353 (by decide) (fun c => ?_) (fun c => ?_)
                · replace h := gTr c h
                  refine g_sub X [1, 0] (ls' := [(0, .ref (r 0)), (1, .int ((up1 (up1 (up1 v 0 22 (v 0 21)) 0 23 0) 0 24 0) 6 ((up1 (up1 (up1 v 0 22 (v 0 21)) 0 23 0) 0 24 0) 0 21).toNatClampNeg))]) rfl ?_
                  exact bX6_next_374 X  _ _  h
                · replace h := gF c h
                  refine g_iload_n X dX6_next_356 rfl 0 rfl ?_
                  refine g_bipush X 42 dX6_next_357 (by decide) ?_
                  refine g_icmp_eq X 374 dX6_next_359 (by decide) (fun c => ?_) (fun c => ?_)
                  · replace h := gTr c h
                    refine g_sub X [1, 0] (ls' := [(0, .ref (r 0)), (1, .int ((up1 (up1 (up1 v 0 22 (v 0 21)) 0 23 0) 0 24 0) 6 ((up1 (up1 (up1 v 0 22 (v 0 21)) 0 23 0) 0 24 0) 0 21).toNatClampNeg))]) rfl ?_
                    exact bX6_next_374 X  _ _  h
                  · replace h := gF c h
                    refine g_iload_n X dX6_next_362 rfl 0 rfl ?_
                    refine g_bipush X 60 dX6_next_363 (by decide) ?_
                    refine g_icmp_eq X 374 dX6_next_365 (by decide) (fun c => ?_) (fun c => ?_)
                    · replace h := gTr c h
                      refine g_sub X [1, 0] (ls' := [(0, .ref (r 0)), (1, .int ((up1 (up1 (up1 v 0 22 (v 0 21)) 0 23 0) 0 24 0) 6 ((up1 (up1 (up1 v 0 22 (v 0 21)) 0 23 0) 0 24 0) 0 21).toNatClampNeg))]) rfl ?_
                      exact bX6_next_374 X  _ _  h
                    · replace h := gF c h
                      refine g_iload_n X dX6_next_368 rfl 0 rfl ?_
                      refine g_bipush X 61 dX6_next_369 (by decide) ?_
                      refine g_icmp_ne X 378 dX6_next_371 (by decide) (fun c => ?_) (fun c => ?_)
                      · replace h := gF c h
                        refine g_iconst X 0 dX6_next_378 (by decide) ?_
                        refine g_sub X [1, 0] (ls' := [(0, .ref (r 0)), (1, .int ((up1 (up1 (up1 v 0 22 (v 0 21)) 0 23 0) 0 24 0) 6 ((up1 (up1 (up1 v 0 22 (v 0 21)) 0 23 0) 0 24 0) 0 21).toNatClampNeg))]) rfl ?_
                        exact bX6_next_379 X  _ _ _  h
                      · replace h := gTr c h
                        refine g_sub X [1, 0] (ls' := [(0, .ref (r 0)), (1, .int ((up1 (up1 (up1 v 0 22 (v 0 21)) 0 23 0) 0 24 0) 6 ((up1 (up1 (up1 v 0 22 (v 0 21)) 0 23 0) 0 24 0) 0 21).toNatClampNeg))]) rfl ?_
                        exact bX6_next_374 X  _ _  h
      · replace h := gF c h
        refine g_iconst X 0 dX6_next_228 (by decide) ?_
        refine g_istore_n X (ls' := [(2, .int 0), (1, .int ((up1 (up1 (up1 v 0 22 (v 0 21)) 0 23 0) 0 24 0) 6 ((up1 (up1 (up1 v 0 22 (v 0 21)) 0 23 0) 0 24 0) 0 21).toNatClampNeg)), (0, .ref (r 0))]) dX6_next_229 rfl (by decide) rfl ?_
        refine g_sub X [2, 0] (ls' := [(0, .ref (r 0)), (2, .int 0)]) rfl ?_
        exact bX6_next_230 X  _ _ _  h
    · replace h := gF c h
      refine g_sub X [1] (ls' := [(0, .ref (r 0))]) rfl ?_
      exact bX6_next_103 X  _ _   h
  · replace h := gTr c h
    exact g_vretR X h dX6_next_81

set_option maxHeartbeats 4000000 in
set_option maxRecDepth 100000 in
theorem bX6_next_0 {l : Launch} {D : va_G} {cA : Nat → ClassId} {r : Nat → Nat} {G : gG} {xr : Unit} {v' : gV} (X : XM l D cA r RX6 cX6_next 3 none rmX6_next none v' G) : ∀ (n : Nat) (v : gV), fX6_next_0 n v  = some (xr, v') → G v [(0, .ref (r 0))] 0 [] := by
  intro n
  induction n with
  | zero => intro v  h; rw [fX6_next_0] at h; cases h
  | succ n ih =>
    intro v  h
    rw [fX6_next_0] at h
    refine g_aload_n X dX6_next_0 rfl 0 rfl ?_
    refine g_get X fl6_92 hNM_0 (shM_0 _) rfl dX6_next_1 ?_
    refine g_aload_n X dX6_next_4 rfl 0 rfl ?_
    refine g_get X fl6_68 hNM_0 (shM_0 _) rfl dX6_next_5 ?_
    refine g_icmp_ge X 52 dX6_next_8 (by decide) (fun c => ?_) (fun c => ?_)
    · replace h := gTr c h
      exact bX6_next_52 X  _   h
    · replace h := gF c h
      refine g_aload_n X dX6_next_11 rfl 0 rfl ?_
      refine g_get X fl6_29 hNM_0 (shM_0 _) rfl dX6_next_12 ?_
      refine g_aload_n X dX6_next_15 rfl 0 rfl ?_
      refine g_get X fl6_92 hNM_0 (shM_0 _) rfl dX6_next_16 ?_
      obtain ⟨c, h⟩ := gGd h
      refine g_iald X hNM_6 (shM_6 _) rfl (gin_in c) dX6_next_19 ?_
      refine g_bipush X 32 dX6_next_20 (by decide) ?_
      refine g_icmp_eq X 39 dX6_next_22 (by decide) (fun c => ?_) (fun c => ?_)
      · replace h := gTr c h
        exact bX6_next_39 X ih _   h
      · replace h := gF c h
        refine g_aload_n X dX6_next_25 rfl 0 rfl ?_
        refine g_get X fl6_29 hNM_0 (shM_0 _) rfl dX6_next_26 ?_
        refine g_aload_n X dX6_next_29 rfl 0 rfl ?_
        refine g_get X fl6_92 hNM_0 (shM_0 _) rfl dX6_next_30 ?_
        obtain ⟨c, h⟩ := gGd h
        refine g_iald X hNM_6 (shM_6 _) rfl (gin_in c) dX6_next_33 ?_
        refine g_bipush X 10 dX6_next_34 (by decide) ?_
        refine g_icmp_ne X 52 dX6_next_36 (by decide) (fun c => ?_) (fun c => ?_)
        · replace h := gF c h
          exact bX6_next_52 X  _   h
        · replace h := gTr c h
          exact bX6_next_39 X ih _   h

set_option maxHeartbeats 4000000 in
set_option maxRecDepth 100000 in
theorem bX6_next_e {l : Launch} {D : va_G} {cA : Nat → ClassId} {r : Nat → Nat} {G : gG} {xr : Unit} {v' : gV} (X : XM l D cA r RX6 cX6_next 3 none rmX6_next none v' G) (v : gV)  (h : fX6_next v  = some (xr, v')) : G v [(0, .ref (r 0))] 0 [] := by
  unfold fX6_next at h
  exact bX6_next_0 X  _ _   h

theorem mX6_next {l : Launch} {D : va_G} {cA : Nat → ClassId} {r : Nat → Nat} {v : gV}  {xr : Unit} {v' : gV} (h : fX6_next v  = some (xr, v')) : Ct l D (tysM cA) (shM cA r) 19 r (ZM r) yX6_next cX6_next 3 none rmX6_next [.ref (r 0)] v none v' := ct_of plX6 ZM_ok (Nat.le_of_ble_eq_true rfl) rfl (fun _ X => bX6_next_e X v  h)

def rmX6_rank : Room := { frames := 0, cells := 0, slots := 0, locals := 0 }

set_option maxHeartbeats 4000000 in
set_option maxRecDepth 100000 in
theorem bX6_rank_0 {l : Launch} {D : va_G} {cA : Nat → ClassId} {r : Nat → Nat} {G : gG} {xr : Int32} {v' : gV} (X : XM l D cA r RX6 cX6_rank 1 (some .int) rmX6_rank (some (.int xr)) v' G) (v : gV) (x0 : Int32) (h : fX6_rank v x0 = some (xr, v')) : G v [(0, .int x0)] 0 [] := by
  unfold fX6_rank at h
  refine g_iload_n X dX6_rank_0 rfl 0 rfl ?_
  refine g_if_ne X 8 dX6_rank_1 (by decide) (fun c => ?_) (fun c => ?_)
  · replace h := gF c h
    refine g_iload_n X dX6_rank_8 rfl 0 rfl ?_
    refine g_bipush X 11 dX6_rank_9 (by decide) ?_
    refine g_icmp_ne X 18 dX6_rank_11 (by decide) (fun c => ?_) (fun c => ?_)
    · replace h := gF c h
      refine g_iload_n X dX6_rank_18 rfl 0 rfl ?_
      refine g_bipush X 12 dX6_rank_19 (by decide) ?_
      refine g_icmp_ne X 28 dX6_rank_21 (by decide) (fun c => ?_) (fun c => ?_)
      · replace h := gF c h
        refine g_iload_n X dX6_rank_28 rfl 0 rfl ?_
        refine g_bipush X 13 dX6_rank_29 (by decide) ?_
        refine g_icmp_ne X 38 dX6_rank_31 (by decide) (fun c => ?_) (fun c => ?_)
        · replace h := gF c h
          refine g_iload_n X dX6_rank_38 rfl 0 rfl ?_
          refine g_bipush X 15 dX6_rank_39 (by decide) ?_
          refine g_icmp_gt X 48 dX6_rank_41 (by decide) (fun c => ?_) (fun c => ?_)
          · replace h := gTr c h
            refine g_iload_n X dX6_rank_48 rfl 0 rfl ?_
            refine g_bipush X 17 dX6_rank_49 (by decide) ?_
            refine g_icmp_gt X 58 dX6_rank_51 (by decide) (fun c => ?_) (fun c => ?_)
            · replace h := gTr c h
              refine g_iload_n X dX6_rank_58 rfl 0 rfl ?_
              refine g_bipush X 18 dX6_rank_59 (by decide) ?_
              refine g_icmp_ne X 69 dX6_rank_61 (by decide) (fun c => ?_) (fun c => ?_)
              · replace h := gF c h
                refine g_bipush X 7 dX6_rank_69 (by decide) ?_
                exact g_iretR X h dX6_rank_71
              · replace h := gTr c h
                refine g_bipush X 6 dX6_rank_64 (by decide) ?_
                refine g_goto X 71 dX6_rank_66 (by decide) ?_
                exact g_iretR X h dX6_rank_71
            · replace h := gF c h
              refine g_iconst X 5 dX6_rank_54 (by decide) ?_
              refine g_goto X 71 dX6_rank_55 (by decide) ?_
              exact g_iretR X h dX6_rank_71
          · replace h := gF c h
            refine g_iconst X 4 dX6_rank_44 (by decide) ?_
            refine g_goto X 71 dX6_rank_45 (by decide) ?_
            exact g_iretR X h dX6_rank_71
        · replace h := gTr c h
          refine g_iconst X 3 dX6_rank_34 (by decide) ?_
          refine g_goto X 71 dX6_rank_35 (by decide) ?_
          exact g_iretR X h dX6_rank_71
      · replace h := gTr c h
        refine g_iconst X 2 dX6_rank_24 (by decide) ?_
        refine g_goto X 71 dX6_rank_25 (by decide) ?_
        exact g_iretR X h dX6_rank_71
    · replace h := gTr c h
      refine g_iconst X 1 dX6_rank_14 (by decide) ?_
      refine g_goto X 71 dX6_rank_15 (by decide) ?_
      exact g_iretR X h dX6_rank_71
  · replace h := gTr c h
    refine g_iconst X 0 dX6_rank_4 (by decide) ?_
    refine g_goto X 71 dX6_rank_5 (by decide) ?_
    exact g_iretR X h dX6_rank_71

theorem mX6_rank {l : Launch} {D : va_G} {cA : Nat → ClassId} {r : Nat → Nat} {v : gV} {x0 : Int32} {xr : Int32} {v' : gV} (h : fX6_rank v x0 = some (xr, v')) : Ct l D (tysM cA) (shM cA r) 19 r (ZM r) yX6_rank cX6_rank 1 (some .int) rmX6_rank [.int x0] v (some (.int xr)) v' := ct_of plX6 ZM_ok (Nat.le_of_ble_eq_true rfl) rfl (fun _ X => bX6_rank_0 X v x0 h)

def rmX6_puts : Room := { frames := 0, cells := 0, slots := 0, locals := 0 }

set_option maxHeartbeats 4000000 in
set_option maxRecDepth 100000 in
theorem bX6_puts_0 {l : Launch} {D : va_G} {cA : Nat → ClassId} {r : Nat → Nat} {G : gG} {xr : Unit} {v' : gV} (X : XM l D cA r RX6 cX6_puts 2 none rmX6_puts none v' G) (v : gV) (x1 : Int32) (h : fX6_puts v x1 = some (xr, v')) : G v [(0, .ref (r 0)), (1, .int x1)] 0 [] := by
  unfold fX6_puts at h
  refine g_aload_n X dX6_puts_0 rfl 0 rfl ?_
  refine g_get X fl6_32 hNM_0 (shM_0 _) rfl dX6_puts_1 ?_
  refine g_sipush X 200 dX6_puts_4 (by decide) ?_
  refine g_aload_n X dX6_puts_7 rfl 0 rfl ?_
  refine g_get X fl6_82 hNM_0 (shM_0 _) rfl dX6_puts_8 ?_
  refine g_imul X dX6_puts_11 ?_
  refine g_aload_n X dX6_puts_12 rfl 0 rfl ?_
  refine g_get X fl6_108 hNM_0 (shM_0 _) rfl dX6_puts_13 ?_
  refine g_iadd X dX6_puts_16 ?_
  refine g_iload_n X dX6_puts_17 rfl 1 rfl ?_
  obtain ⟨c, h⟩ := gGd h
  refine g_iast X hNM_7 (shM_7) rfl (gin_in c) dX6_puts_18 ?_
  refine g_aload_n X dX6_puts_19 rfl 0 rfl ?_
  refine g_dup X dX6_puts_20 rfl ?_
  refine g_get X fl6_108 hNM_0 (shM_0 _) rfl dX6_puts_21 ?_
  refine g_iconst X 1 dX6_puts_24 (by decide) ?_
  refine g_iadd X dX6_puts_25 ?_
  refine g_put X (fsM6 r) fp6_108 hNM_0 (shM_0) (fun _ => rfl) (Nat.le_of_ble_eq_true rfl) dX6_puts_26 ?_
  exact g_vretR X h dX6_puts_29

theorem mX6_puts {l : Launch} {D : va_G} {cA : Nat → ClassId} {r : Nat → Nat} {v : gV} {x1 : Int32} {xr : Unit} {v' : gV} (h : fX6_puts v x1 = some (xr, v')) : Ct l D (tysM cA) (shM cA r) 19 r (ZM r) yX6_puts cX6_puts 2 none rmX6_puts [.ref (r 0), .int x1] v none v' := ct_of plX6 ZM_ok (Nat.le_of_ble_eq_true rfl) rfl (fun _ X => bX6_puts_0 X v x1 h)

def rmX6_unwinds : Room := { frames := 1, cells := 0, slots := 0, locals := 21 }

set_option maxHeartbeats 4000000 in
set_option maxRecDepth 100000 in
theorem bX6_unwinds_67 {l : Launch} {D : va_G} {cA : Nat → ClassId} {r : Nat → Nat} {G : gG} {xr : Unit} {v' : gV} {k0 : gV → Int32 → Option (Unit × gV)} (X : XM l D cA r RX6 cX6_unwinds 3 none rmX6_unwinds none v' G) (K0 : ∀ (v : gV) (x1 : Int32), k0 v x1 = some (xr, v') → G v [(0, .ref (r 0)), (1, .int x1)] 0 []) (v : gV) (x1 : Int32) (x2 : Int32) (s1 : Int32) (s2 : Int32) (h : fX6_unwinds_67 k0 v x1 x2 s1 s2 = some (xr, v')) : G v [(0, .ref (r 0)), (1, .int x1), (2, .int x2)] 67 [.int s2, .int s1, .ref (r 0)] := by
  unfold fX6_unwinds_67 at h
  refine g_isub X dX6_unwinds_67 ?_
  refine g_put X (fsM6 r) fp6_118 hNM_0 (shM_0) (fun _ => rfl) (Nat.le_of_ble_eq_true rfl) dX6_unwinds_68 ?_
  refine g_aload_n X dX6_unwinds_71 rfl 0 rfl ?_
  refine g_iload_n X dX6_unwinds_72 rfl 2 rfl ?_
  obtain ⟨y4, v5, hc6, h⟩ := gB_inv h
  refine g_callV X (st := []) (st' := []) kcX6_puts kvX6_puts kl6_121 (⟨rfl, rfl, by decide, by decide⟩) (mX6_puts hc6) hNM_0 (shM_0 _) rfl rfl rfl (Nat.le_of_ble_eq_true rfl) rfl dX6_unwinds_73 ?_
  refine g_goto X 0 dX6_unwinds_76 (by decide) ?_
  refine g_sub X [0, 1] (ls' := [(0, .ref (r 0)), (1, .int x1)]) rfl ?_
  exact K0 _ _  h

set_option maxHeartbeats 4000000 in
set_option maxRecDepth 100000 in
theorem bX6_unwinds_62 {l : Launch} {D : va_G} {cA : Nat → ClassId} {r : Nat → Nat} {G : gG} {xr : Unit} {v' : gV} {k0 : gV → Int32 → Option (Unit × gV)} (X : XM l D cA r RX6 cX6_unwinds 3 none rmX6_unwinds none v' G) (K0 : ∀ (v : gV) (x1 : Int32), k0 v x1 = some (xr, v') → G v [(0, .ref (r 0)), (1, .int x1)] 0 []) (v : gV) (x1 : Int32) (x2 : Int32) (s1 : Int32) (h : fX6_unwinds_62 k0 v x1 x2 s1 = some (xr, v')) : G v [(0, .ref (r 0)), (1, .int x1), (2, .int x2)] 62 [.int s1, .ref (r 0)] := by
  unfold fX6_unwinds_62 at h
  refine g_iconst X 1 dX6_unwinds_62 (by decide) ?_
  refine g_goto X 67 dX6_unwinds_63 (by decide) ?_
  exact bX6_unwinds_67 X K0 _ _ _ _ _  h

set_option maxHeartbeats 4000000 in
set_option maxRecDepth 100000 in
theorem bX6_unwinds_0 {l : Launch} {D : va_G} {cA : Nat → ClassId} {r : Nat → Nat} {G : gG} {xr : Unit} {v' : gV} (X : XM l D cA r RX6 cX6_unwinds 3 none rmX6_unwinds none v' G) : ∀ (n : Nat) (v : gV) (x1 : Int32), fX6_unwinds_0 n v x1 = some (xr, v') → G v [(0, .ref (r 0)), (1, .int x1)] 0 [] := by
  intro n
  induction n with
  | zero => intro v x1 h; rw [fX6_unwinds_0] at h; cases h
  | succ n ih =>
    intro v x1 h
    rw [fX6_unwinds_0] at h
    refine g_aload_n X dX6_unwinds_0 rfl 0 rfl ?_
    refine g_get X fl6_111 hNM_0 (shM_0 _) rfl dX6_unwinds_1 ?_
    refine g_if_le X 79 dX6_unwinds_4 (by decide) (fun c => ?_) (fun c => ?_)
    · replace h := gTr c h
      exact g_vretR X h dX6_unwinds_79
    · replace h := gF c h
      refine g_aload_n X dX6_unwinds_7 rfl 0 rfl ?_
      refine g_get X fl6_56 hNM_0 (shM_0 _) rfl dX6_unwinds_8 ?_
      refine g_aload_n X dX6_unwinds_11 rfl 0 rfl ?_
      refine g_get X fl6_111 hNM_0 (shM_0 _) rfl dX6_unwinds_12 ?_
      refine g_iconst X 1 dX6_unwinds_15 (by decide) ?_
      refine g_isub X dX6_unwinds_16 ?_
      obtain ⟨c, h⟩ := gGd h
      refine g_iald X hNM_15 (shM_15 _) rfl (gin_in c) dX6_unwinds_17 ?_
      obtain ⟨y1, v2, hc3, h⟩ := gB_inv h
      refine g_callS X (st := []) (st' := [.int y1]) kcX6_rank ktX6_rank kl6_114 (⟨rfl, rfl, by decide, by decide⟩) (mX6_rank hc3) rfl rfl (Nat.le_of_ble_eq_true rfl) rfl dX6_unwinds_18 ?_
      refine g_iload_n X dX6_unwinds_21 rfl 1 rfl ?_
      refine g_icmp_lt X 79 dX6_unwinds_22 (by decide) (fun c => ?_) (fun c => ?_)
      · replace h := gTr c h
        exact g_vretR X h dX6_unwinds_79
      · replace h := gF c h
        refine g_aload_n X dX6_unwinds_25 rfl 0 rfl ?_
        refine g_dup X dX6_unwinds_26 rfl ?_
        refine g_get X fl6_111 hNM_0 (shM_0 _) rfl dX6_unwinds_27 ?_
        refine g_iconst X 1 dX6_unwinds_30 (by decide) ?_
        refine g_isub X dX6_unwinds_31 ?_
        refine g_put X (fsM6 r) fp6_111 hNM_0 (shM_0) (fun _ => rfl) (Nat.le_of_ble_eq_true rfl) dX6_unwinds_32 ?_
        refine g_aload_n X dX6_unwinds_35 rfl 0 rfl ?_
        refine g_get X fl6_56 hNM_0 (shM_0 _) rfl dX6_unwinds_36 ?_
        refine g_aload_n X dX6_unwinds_39 rfl 0 rfl ?_
        refine g_get X fl6_111 hNM_0 (shM_0 _) rfl dX6_unwinds_40 ?_
        obtain ⟨c, h⟩ := gGd h
        refine g_iald X hNM_15 (shM_15 _) rfl (gin_in c) dX6_unwinds_43 ?_
        refine g_istore_n X (ls' := [(2, .int ((up1 v2 0 27 ((v2 0 27) - 1)) 15 ((up1 v2 0 27 ((v2 0 27) - 1)) 0 27).toNatClampNeg)), (0, .ref (r 0)), (1, .int x1)]) dX6_unwinds_44 rfl (by decide) rfl ?_
        refine g_aload_n X dX6_unwinds_45 rfl 1 rfl ?_
        refine g_dup X dX6_unwinds_46 rfl ?_
        refine g_get X fl6_118 hNM_0 (shM_0 _) rfl dX6_unwinds_47 ?_
        refine g_iload_n X dX6_unwinds_50 rfl 0 rfl ?_
        refine g_bipush X 13 dX6_unwinds_51 (by decide) ?_
        refine g_icmp_eq X 62 dX6_unwinds_53 (by decide) (fun c => ?_) (fun c => ?_)
        · replace h := gTr c h
          refine g_sub X [1, 2, 0] (ls' := [(0, .ref (r 0)), (1, .int x1), (2, .int ((up1 v2 0 27 ((v2 0 27) - 1)) 15 ((up1 v2 0 27 ((v2 0 27) - 1)) 0 27).toNatClampNeg))]) rfl ?_
          exact bX6_unwinds_62 X ih _ _ _ _  h
        · replace h := gF c h
          refine g_iload_n X dX6_unwinds_56 rfl 0 rfl ?_
          refine g_bipush X 19 dX6_unwinds_57 (by decide) ?_
          refine g_icmp_ne X 66 dX6_unwinds_59 (by decide) (fun c => ?_) (fun c => ?_)
          · replace h := gF c h
            refine g_iconst X 0 dX6_unwinds_66 (by decide) ?_
            refine g_sub X [1, 2, 0] (ls' := [(0, .ref (r 0)), (1, .int x1), (2, .int ((up1 v2 0 27 ((v2 0 27) - 1)) 15 ((up1 v2 0 27 ((v2 0 27) - 1)) 0 27).toNatClampNeg))]) rfl ?_
            exact bX6_unwinds_67 X ih _ _ _ _ _  h
          · replace h := gTr c h
            refine g_sub X [1, 2, 0] (ls' := [(0, .ref (r 0)), (1, .int x1), (2, .int ((up1 v2 0 27 ((v2 0 27) - 1)) 15 ((up1 v2 0 27 ((v2 0 27) - 1)) 0 27).toNatClampNeg))]) rfl ?_
            exact bX6_unwinds_62 X ih _ _ _ _  h

set_option maxHeartbeats 4000000 in
set_option maxRecDepth 100000 in
theorem bX6_unwinds_e {l : Launch} {D : va_G} {cA : Nat → ClassId} {r : Nat → Nat} {G : gG} {xr : Unit} {v' : gV} (X : XM l D cA r RX6 cX6_unwinds 3 none rmX6_unwinds none v' G) (v : gV) (x1 : Int32) (h : fX6_unwinds v x1 = some (xr, v')) : G v [(0, .ref (r 0)), (1, .int x1)] 0 [] := by
  unfold fX6_unwinds at h
  exact bX6_unwinds_0 X  _ _ _  h

theorem mX6_unwinds {l : Launch} {D : va_G} {cA : Nat → ClassId} {r : Nat → Nat} {v : gV} {x1 : Int32} {xr : Unit} {v' : gV} (h : fX6_unwinds v x1 = some (xr, v')) : Ct l D (tysM cA) (shM cA r) 19 r (ZM r) yX6_unwinds cX6_unwinds 3 none rmX6_unwinds [.ref (r 0), .int x1] v none v' := ct_of plX6 ZM_ok (Nat.le_of_ble_eq_true rfl) rfl (fun _ X => bX6_unwinds_e X v x1 h)

def rmX6_holds : Room := { frames := 0, cells := 0, slots := 0, locals := 0 }

set_option maxHeartbeats 4000000 in
set_option maxRecDepth 100000 in
theorem bX6_holds_0 {l : Launch} {D : va_G} {cA : Nat → ClassId} {r : Nat → Nat} {G : gG} {xr : Unit} {v' : gV} (X : XM l D cA r RX6 cX6_holds 2 none rmX6_holds none v' G) (v : gV) (x1 : Int32) (h : fX6_holds v x1 = some (xr, v')) : G v [(0, .ref (r 0)), (1, .int x1)] 0 [] := by
  unfold fX6_holds at h
  refine g_aload_n X dX6_holds_0 rfl 0 rfl ?_
  refine g_get X fl6_56 hNM_0 (shM_0 _) rfl dX6_holds_1 ?_
  refine g_aload_n X dX6_holds_4 rfl 0 rfl ?_
  refine g_get X fl6_111 hNM_0 (shM_0 _) rfl dX6_holds_5 ?_
  refine g_iload_n X dX6_holds_8 rfl 1 rfl ?_
  obtain ⟨c, h⟩ := gGd h
  refine g_iast X hNM_15 (shM_15) rfl (gin_in c) dX6_holds_9 ?_
  refine g_aload_n X dX6_holds_10 rfl 0 rfl ?_
  refine g_dup X dX6_holds_11 rfl ?_
  refine g_get X fl6_111 hNM_0 (shM_0 _) rfl dX6_holds_12 ?_
  refine g_iconst X 1 dX6_holds_15 (by decide) ?_
  refine g_iadd X dX6_holds_16 ?_
  refine g_put X (fsM6 r) fp6_111 hNM_0 (shM_0) (fun _ => rfl) (Nat.le_of_ble_eq_true rfl) dX6_holds_17 ?_
  exact g_vretR X h dX6_holds_20

theorem mX6_holds {l : Launch} {D : va_G} {cA : Nat → ClassId} {r : Nat → Nat} {v : gV} {x1 : Int32} {xr : Unit} {v' : gV} (h : fX6_holds v x1 = some (xr, v')) : Ct l D (tysM cA) (shM cA r) 19 r (ZM r) yX6_holds cX6_holds 2 none rmX6_holds [.ref (r 0), .int x1] v none v' := ct_of plX6 ZM_ok (Nat.le_of_ble_eq_true rfl) rfl (fun _ X => bX6_holds_0 X v x1 h)

def rmX6_opensOne : Room := { frames := 1, cells := 0, slots := 0, locals := 21 }

set_option maxHeartbeats 4000000 in
set_option maxRecDepth 100000 in
theorem bX6_opensOne_0 {l : Launch} {D : va_G} {cA : Nat → ClassId} {r : Nat → Nat} {G : gG} {xr : Int32} {v' : gV} (X : XM l D cA r RX6 cX6_opensOne 2 (some .boolean) rmX6_opensOne (some (.int xr)) v' G) (v : gV) (x1 : Int32) (h : fX6_opensOne v x1 = some (xr, v')) : G v [(0, .ref (r 0)), (1, .int x1)] 0 [] := by
  unfold fX6_opensOne at h
  refine g_aload_n X dX6_opensOne_0 rfl 0 rfl ?_
  refine g_get X fl6_118 hNM_0 (shM_0 _) rfl dX6_opensOne_1 ?_
  refine g_iconst X 5 dX6_opensOne_4 (by decide) ?_
  refine g_icmp_ne X 10 dX6_opensOne_5 (by decide) (fun c => ?_) (fun c => ?_)
  · replace h := gF c h
    refine g_aload_n X dX6_opensOne_10 rfl 0 rfl ?_
    refine g_dup X dX6_opensOne_11 rfl ?_
    refine g_get X fl6_118 hNM_0 (shM_0 _) rfl dX6_opensOne_12 ?_
    refine g_iconst X 1 dX6_opensOne_15 (by decide) ?_
    refine g_iadd X dX6_opensOne_16 ?_
    refine g_put X (fsM6 r) fp6_118 hNM_0 (shM_0) (fun _ => rfl) (Nat.le_of_ble_eq_true rfl) dX6_opensOne_17 ?_
    refine g_aload_n X dX6_opensOne_20 rfl 0 rfl ?_
    refine g_iload_n X dX6_opensOne_21 rfl 1 rfl ?_
    obtain ⟨y1, v2, hc3, h⟩ := gB_inv h
    refine g_callV X (st := []) (st' := []) kcX6_holds kvX6_holds kl6_125 (⟨rfl, rfl, by decide, by decide⟩) (mX6_holds hc3) hNM_0 (shM_0 _) rfl rfl rfl (Nat.le_of_ble_eq_true rfl) rfl dX6_opensOne_22 ?_
    refine g_iconst X 1 dX6_opensOne_25 (by decide) ?_
    exact g_zretR X (Or.inr rfl) h dX6_opensOne_26
  · replace h := gTr c h
    refine g_iconst X 0 dX6_opensOne_8 (by decide) ?_
    exact g_zretR X (Or.inl rfl) h dX6_opensOne_9

theorem mX6_opensOne {l : Launch} {D : va_G} {cA : Nat → ClassId} {r : Nat → Nat} {v : gV} {x1 : Int32} {xr : Int32} {v' : gV} (h : fX6_opensOne v x1 = some (xr, v')) : Ct l D (tysM cA) (shM cA r) 19 r (ZM r) yX6_opensOne cX6_opensOne 2 (some .boolean) rmX6_opensOne [.ref (r 0), .int x1] v (some (.int xr)) v' := ct_of plX6 ZM_ok (Nat.le_of_ble_eq_true rfl) rfl (fun _ X => bX6_opensOne_0 X v x1 h)

def rmX6_between : Room := { frames := 2, cells := 0, slots := 0, locals := 43 }

set_option maxHeartbeats 4000000 in
set_option maxRecDepth 100000 in
theorem bX6_between_55 {l : Launch} {D : va_G} {cA : Nat → ClassId} {r : Nat → Nat} {G : gG} {xr : Int32} {v' : gV} (X : XM l D cA r RX6 cX6_between 2 (some .boolean) rmX6_between (some (.int xr)) v' G) (v : gV) (x1 : Int32) (h : fX6_between_55 v x1 = some (xr, v')) : G v [(0, .ref (r 0)), (1, .int x1)] 55 [] := by
  unfold fX6_between_55 at h
  refine g_aload_n X dX6_between_55 rfl 0 rfl ?_
  refine g_iload_n X dX6_between_56 rfl 1 rfl ?_
  obtain ⟨y16, v17, hc18, h⟩ := gB_inv h
  refine g_callV X (st := []) (st' := []) kcX6_holds kvX6_holds kl6_125 (⟨rfl, rfl, by decide, by decide⟩) (mX6_holds hc18) hNM_0 (shM_0 _) rfl rfl rfl (Nat.le_of_ble_eq_true rfl) rfl dX6_between_57 ?_
  refine g_iconst X 1 dX6_between_60 (by decide) ?_
  exact g_zretR X (Or.inr rfl) h dX6_between_61

set_option maxHeartbeats 4000000 in
set_option maxRecDepth 100000 in
theorem bX6_between_17 {l : Launch} {D : va_G} {cA : Nat → ClassId} {r : Nat → Nat} {G : gG} {xr : Int32} {v' : gV} (X : XM l D cA r RX6 cX6_between 2 (some .boolean) rmX6_between (some (.int xr)) v' G) (v : gV) (x1 : Int32) (s1 : Int32) (h : fX6_between_17 v x1 s1 = some (xr, v')) : G v [(0, .ref (r 0)), (1, .int x1)] 17 [.int s1, .ref (r 0)] := by
  unfold fX6_between_17 at h
  obtain ⟨y7, v8, hc9, h⟩ := gB_inv h
  refine g_callV X (st := []) (st' := []) kcX6_unwinds kvX6_unwinds kl6_128 (⟨rfl, rfl, by decide, by decide⟩) (mX6_unwinds hc9) hNM_0 (shM_0 _) rfl rfl rfl (Nat.le_of_ble_eq_true rfl) rfl dX6_between_17 ?_
  refine g_iload_n X dX6_between_20 rfl 1 rfl ?_
  obtain ⟨y10, v11, hc12, h⟩ := gB_inv h
  refine g_callS X (st := []) (st' := [.int y10]) kcX6_rank ktX6_rank kl6_114 (⟨rfl, rfl, by decide, by decide⟩) (mX6_rank hc12) rfl rfl (Nat.le_of_ble_eq_true rfl) rfl dX6_between_21 ?_
  refine g_iconst X 4 dX6_between_24 (by decide) ?_
  refine g_icmp_ne X 55 dX6_between_25 (by decide) (fun c => ?_) (fun c => ?_)
  · replace h := gF c h
    exact bX6_between_55 X  _ _  h
  · replace h := gTr c h
    refine g_aload_n X dX6_between_28 rfl 0 rfl ?_
    refine g_get X fl6_111 hNM_0 (shM_0 _) rfl dX6_between_29 ?_
    refine g_if_le X 55 dX6_between_32 (by decide) (fun c => ?_) (fun c => ?_)
    · replace h := gTr c h
      exact bX6_between_55 X  _ _  h
    · replace h := gF c h
      refine g_aload_n X dX6_between_35 rfl 0 rfl ?_
      refine g_get X fl6_56 hNM_0 (shM_0 _) rfl dX6_between_36 ?_
      refine g_aload_n X dX6_between_39 rfl 0 rfl ?_
      refine g_get X fl6_111 hNM_0 (shM_0 _) rfl dX6_between_40 ?_
      refine g_iconst X 1 dX6_between_43 (by decide) ?_
      refine g_isub X dX6_between_44 ?_
      obtain ⟨c, h⟩ := gGd h
      refine g_iald X hNM_15 (shM_15 _) rfl (gin_in c) dX6_between_45 ?_
      obtain ⟨y13, v14, hc15, h⟩ := gB_inv h
      refine g_callS X (st := []) (st' := [.int y13]) kcX6_rank ktX6_rank kl6_114 (⟨rfl, rfl, by decide, by decide⟩) (mX6_rank hc15) rfl rfl (Nat.le_of_ble_eq_true rfl) rfl dX6_between_46 ?_
      refine g_iconst X 4 dX6_between_49 (by decide) ?_
      refine g_icmp_ne X 55 dX6_between_50 (by decide) (fun c => ?_) (fun c => ?_)
      · replace h := gF c h
        exact bX6_between_55 X  _ _  h
      · replace h := gTr c h
        refine g_iconst X 0 dX6_between_53 (by decide) ?_
        exact g_zretR X (Or.inl rfl) h dX6_between_54

set_option maxHeartbeats 4000000 in
set_option maxRecDepth 100000 in
theorem bX6_between_0 {l : Launch} {D : va_G} {cA : Nat → ClassId} {r : Nat → Nat} {G : gG} {xr : Int32} {v' : gV} (X : XM l D cA r RX6 cX6_between 2 (some .boolean) rmX6_between (some (.int xr)) v' G) (v : gV) (x1 : Int32) (h : fX6_between v x1 = some (xr, v')) : G v [(0, .ref (r 0)), (1, .int x1)] 0 [] := by
  unfold fX6_between at h
  refine g_aload_n X dX6_between_0 rfl 0 rfl ?_
  refine g_iload_n X dX6_between_1 rfl 1 rfl ?_
  obtain ⟨y1, v2, hc3, h⟩ := gB_inv h
  refine g_callS X (st := [.ref (r 0)]) (st' := [.int y1, .ref (r 0)]) kcX6_rank ktX6_rank kl6_114 (⟨rfl, rfl, by decide, by decide⟩) (mX6_rank hc3) rfl rfl (Nat.le_of_ble_eq_true rfl) rfl dX6_between_2 ?_
  refine g_iconst X 4 dX6_between_5 (by decide) ?_
  refine g_icmp_ne X 13 dX6_between_6 (by decide) (fun c => ?_) (fun c => ?_)
  · replace h := gF c h
    refine g_iload_n X dX6_between_13 rfl 1 rfl ?_
    obtain ⟨y4, v5, hc6, h⟩ := gB_inv h
    refine g_callS X (st := [.ref (r 0)]) (st' := [.int y4, .ref (r 0)]) kcX6_rank ktX6_rank kl6_114 (⟨rfl, rfl, by decide, by decide⟩) (mX6_rank hc6) rfl rfl (Nat.le_of_ble_eq_true rfl) rfl dX6_between_14 ?_
    exact bX6_between_17 X  _ _ _  h
  · replace h := gTr c h
    refine g_iconst X 5 dX6_between_9 (by decide) ?_
    refine g_goto X 17 dX6_between_10 (by decide) ?_
    exact bX6_between_17 X  _ _ _  h

theorem mX6_between {l : Launch} {D : va_G} {cA : Nat → ClassId} {r : Nat → Nat} {v : gV} {x1 : Int32} {xr : Int32} {v' : gV} (h : fX6_between v x1 = some (xr, v')) : Ct l D (tysM cA) (shM cA r) 19 r (ZM r) yX6_between cX6_between 2 (some .boolean) rmX6_between [.ref (r 0), .int x1] v (some (.int xr)) v' := ct_of plX6 ZM_ok (Nat.le_of_ble_eq_true rfl) rfl (fun _ X => bX6_between_0 X v x1 h)

def rmX6_signOf : Room := { frames := 0, cells := 0, slots := 0, locals := 0 }

set_option maxHeartbeats 4000000 in
set_option maxRecDepth 100000 in
theorem bX6_signOf_0 {l : Launch} {D : va_G} {cA : Nat → ClassId} {r : Nat → Nat} {G : gG} {xr : Int32} {v' : gV} (X : XM l D cA r RX6 cX6_signOf 1 (some .int) rmX6_signOf (some (.int xr)) v' G) (v : gV)  (h : fX6_signOf v  = some (xr, v')) : G v [(0, .ref (r 0))] 0 [] := by
  unfold fX6_signOf at h
  refine g_aload_n X dX6_signOf_0 rfl 0 rfl ?_
  refine g_get X fl6_98 hNM_0 (shM_0 _) rfl dX6_signOf_1 ?_
  refine g_iconst X 4 dX6_signOf_4 (by decide) ?_
  refine g_icmp_ne X 13 dX6_signOf_5 (by decide) (fun c => ?_) (fun c => ?_)
  · replace h := gF c h
    refine g_aload_n X dX6_signOf_13 rfl 0 rfl ?_
    refine g_get X fl6_98 hNM_0 (shM_0 _) rfl dX6_signOf_14 ?_
    refine g_iconst X 5 dX6_signOf_17 (by decide) ?_
    refine g_icmp_ne X 26 dX6_signOf_18 (by decide) (fun c => ?_) (fun c => ?_)
    · replace h := gF c h
      refine g_aload_n X dX6_signOf_26 rfl 0 rfl ?_
      refine g_get X fl6_98 hNM_0 (shM_0 _) rfl dX6_signOf_27 ?_
      refine g_bipush X 60 dX6_signOf_30 (by decide) ?_
      refine g_icmp_ne X 40 dX6_signOf_32 (by decide) (fun c => ?_) (fun c => ?_)
      · replace h := gF c h
        refine g_aload_n X dX6_signOf_40 rfl 0 rfl ?_
        refine g_get X fl6_98 hNM_0 (shM_0 _) rfl dX6_signOf_41 ?_
        refine g_bipush X 61 dX6_signOf_44 (by decide) ?_
        refine g_icmp_ne X 54 dX6_signOf_46 (by decide) (fun c => ?_) (fun c => ?_)
        · replace h := gF c h
          refine g_aload_n X dX6_signOf_54 rfl 0 rfl ?_
          refine g_get X fl6_98 hNM_0 (shM_0 _) rfl dX6_signOf_55 ?_
          refine g_bipush X 43 dX6_signOf_58 (by decide) ?_
          refine g_icmp_ne X 68 dX6_signOf_60 (by decide) (fun c => ?_) (fun c => ?_)
          · replace h := gF c h
            refine g_aload_n X dX6_signOf_68 rfl 0 rfl ?_
            refine g_get X fl6_98 hNM_0 (shM_0 _) rfl dX6_signOf_69 ?_
            refine g_bipush X 45 dX6_signOf_72 (by decide) ?_
            refine g_icmp_ne X 82 dX6_signOf_74 (by decide) (fun c => ?_) (fun c => ?_)
            · replace h := gF c h
              refine g_aload_n X dX6_signOf_82 rfl 0 rfl ?_
              refine g_get X fl6_98 hNM_0 (shM_0 _) rfl dX6_signOf_83 ?_
              refine g_bipush X 42 dX6_signOf_86 (by decide) ?_
              refine g_icmp_ne X 96 dX6_signOf_88 (by decide) (fun c => ?_) (fun c => ?_)
              · replace h := gF c h
                refine g_iconst X (-1) dX6_signOf_96 (by decide) ?_
                exact g_iretR X h dX6_signOf_97
              · replace h := gTr c h
                refine g_bipush X 18 dX6_signOf_91 (by decide) ?_
                refine g_goto X 97 dX6_signOf_93 (by decide) ?_
                exact g_iretR X h dX6_signOf_97
            · replace h := gTr c h
              refine g_bipush X 17 dX6_signOf_77 (by decide) ?_
              refine g_goto X 97 dX6_signOf_79 (by decide) ?_
              exact g_iretR X h dX6_signOf_97
          · replace h := gTr c h
            refine g_bipush X 16 dX6_signOf_63 (by decide) ?_
            refine g_goto X 97 dX6_signOf_65 (by decide) ?_
            exact g_iretR X h dX6_signOf_97
        · replace h := gTr c h
          refine g_bipush X 15 dX6_signOf_49 (by decide) ?_
          refine g_goto X 97 dX6_signOf_51 (by decide) ?_
          exact g_iretR X h dX6_signOf_97
      · replace h := gTr c h
        refine g_bipush X 14 dX6_signOf_35 (by decide) ?_
        refine g_goto X 97 dX6_signOf_37 (by decide) ?_
        exact g_iretR X h dX6_signOf_97
    · replace h := gTr c h
      refine g_bipush X 12 dX6_signOf_21 (by decide) ?_
      refine g_goto X 97 dX6_signOf_23 (by decide) ?_
      exact g_iretR X h dX6_signOf_97
  · replace h := gTr c h
    refine g_bipush X 11 dX6_signOf_8 (by decide) ?_
    refine g_goto X 97 dX6_signOf_10 (by decide) ?_
    exact g_iretR X h dX6_signOf_97

theorem mX6_signOf {l : Launch} {D : va_G} {cA : Nat → ClassId} {r : Nat → Nat} {v : gV}  {xr : Int32} {v' : gV} (h : fX6_signOf v  = some (xr, v')) : Ct l D (tysM cA) (shM cA r) 19 r (ZM r) yX6_signOf cX6_signOf 1 (some .int) rmX6_signOf [.ref (r 0)] v (some (.int xr)) v' := ct_of plX6 ZM_ok (Nat.le_of_ble_eq_true rfl) rfl (fun _ X => bX6_signOf_0 X v  h)

def rmX6_eRead : Room := { frames := 3, cells := 0, slots := 0, locals := 64 }

set_option maxHeartbeats 4000000 in
set_option maxRecDepth 100000 in
theorem bX6_eRead_61 {l : Launch} {D : va_G} {cA : Nat → ClassId} {r : Nat → Nat} {G : gG} {xr : Int32} {v' : gV} {k14 : gV → Int32 → Int32 → Option (Int32 × gV)} (X : XM l D cA r RX6 cX6_eRead 4 (some .boolean) rmX6_eRead (some (.int xr)) v' G) (K14 : ∀ (v : gV) (x1 : Int32) (x2 : Int32), k14 v x1 x2 = some (xr, v') → G v [(0, .ref (r 0)), (1, .int x1), (2, .int x2)] 14 []) (v : gV) (x2 : Int32) (s1 : Int32) (h : fX6_eRead_61 k14 v x2 s1 = some (xr, v')) : G v [(0, .ref (r 0)), (2, .int x2)] 61 [.int s1, .ref (r 0)] := by
  unfold fX6_eRead_61 at h
  obtain ⟨y28, v29, hc30, h⟩ := gB_inv h
  refine g_callV X (st := []) (st' := []) kcX6_puts kvX6_puts kl6_121 (⟨rfl, rfl, by decide, by decide⟩) (mX6_puts hc30) hNM_0 (shM_0 _) rfl rfl rfl (Nat.le_of_ble_eq_true rfl) rfl dX6_eRead_61 ?_
  refine g_aload_n X dX6_eRead_64 rfl 0 rfl ?_
  refine g_bipush X 7 dX6_eRead_65 (by decide) ?_
  obtain ⟨y31, v32, hc33, h⟩ := gB_inv h
  refine g_callV X (st := []) (st' := []) kcX6_unwinds kvX6_unwinds kl6_128 (⟨rfl, rfl, by decide, by decide⟩) (mX6_unwinds hc33) hNM_0 (shM_0 _) rfl rfl rfl (Nat.le_of_ble_eq_true rfl) rfl dX6_eRead_67 ?_
  refine g_iconst X 0 dX6_eRead_70 (by decide) ?_
  refine g_istore_n X (ls' := [(1, .int 0), (0, .ref (r 0)), (2, .int x2)]) dX6_eRead_71 rfl (by decide) rfl ?_
  refine g_goto X 14 dX6_eRead_72 (by decide) ?_
  refine g_sub X [1, 0, 2] (ls' := [(0, .ref (r 0)), (1, .int 0), (2, .int x2)]) rfl ?_
  exact K14 _ _ _  h

set_option maxHeartbeats 4000000 in
set_option maxRecDepth 100000 in
theorem bX6_eRead_38 {l : Launch} {D : va_G} {cA : Nat → ClassId} {r : Nat → Nat} {G : gG} {xr : Int32} {v' : gV} {k14 : gV → Int32 → Int32 → Option (Int32 × gV)} (X : XM l D cA r RX6 cX6_eRead 4 (some .boolean) rmX6_eRead (some (.int xr)) v' G) (K14 : ∀ (v : gV) (x1 : Int32) (x2 : Int32), k14 v x1 x2 = some (xr, v') → G v [(0, .ref (r 0)), (1, .int x1), (2, .int x2)] 14 []) (v : gV) (x2 : Int32) (h : fX6_eRead_38 k14 v x2 = some (xr, v')) : G v [(0, .ref (r 0)), (2, .int x2)] 38 [] := by
  unfold fX6_eRead_38 at h
  refine g_aload_n X dX6_eRead_38 rfl 0 rfl ?_
  refine g_aload_n X dX6_eRead_39 rfl 0 rfl ?_
  refine g_get X fl6_98 hNM_0 (shM_0 _) rfl dX6_eRead_40 ?_
  refine g_iconst X 1 dX6_eRead_43 (by decide) ?_
  refine g_icmp_ne X 57 dX6_eRead_44 (by decide) (fun c => ?_) (fun c => ?_)
  · replace h := gF c h
    refine g_aload_n X dX6_eRead_57 rfl 0 rfl ?_
    refine g_get X fl6_101 hNM_0 (shM_0 _) rfl dX6_eRead_58 ?_
    exact bX6_eRead_61 X K14 _ _ _  h
  · replace h := gTr c h
    refine g_ldc X kk6_134 dX6_eRead_47 ?_
    refine g_aload_n X dX6_eRead_49 rfl 0 rfl ?_
    refine g_get X fl6_101 hNM_0 (shM_0 _) rfl dX6_eRead_50 ?_
    refine g_iadd X dX6_eRead_53 ?_
    refine g_goto X 61 dX6_eRead_54 (by decide) ?_
    exact bX6_eRead_61 X K14 _ _ _  h

set_option maxHeartbeats 4000000 in
set_option maxRecDepth 100000 in
theorem bX6_eRead_99 {l : Launch} {D : va_G} {cA : Nat → ClassId} {r : Nat → Nat} {G : gG} {xr : Int32} {v' : gV} {k14 : gV → Int32 → Int32 → Option (Int32 × gV)} (X : XM l D cA r RX6 cX6_eRead 4 (some .boolean) rmX6_eRead (some (.int xr)) v' G) (K14 : ∀ (v : gV) (x1 : Int32) (x2 : Int32), k14 v x1 x2 = some (xr, v') → G v [(0, .ref (r 0)), (1, .int x1), (2, .int x2)] 14 []) (v : gV) (x1 : Int32) (h : fX6_eRead_99 k14 v x1 = some (xr, v')) : G v [(0, .ref (r 0)), (1, .int x1)] 99 [] := by
  unfold fX6_eRead_99 at h
  refine g_aload_n X dX6_eRead_99 rfl 0 rfl ?_
  refine g_get X fl6_98 hNM_0 (shM_0 _) rfl dX6_eRead_100 ?_
  refine g_bipush X 45 dX6_eRead_103 (by decide) ?_
  refine g_icmp_ne X 124 dX6_eRead_105 (by decide) (fun c => ?_) (fun c => ?_)
  · replace h := gF c h
    refine g_aload_n X dX6_eRead_124 rfl 0 rfl ?_
    refine g_get X fl6_98 hNM_0 (shM_0 _) rfl dX6_eRead_125 ?_
    refine g_bipush X 40 dX6_eRead_128 (by decide) ?_
    refine g_icmp_ne X 148 dX6_eRead_130 (by decide) (fun c => ?_) (fun c => ?_)
    · replace h := gF c h
      refine g_iconst X 0 dX6_eRead_148 (by decide) ?_
      exact g_zretR X (Or.inl rfl) h dX6_eRead_149
    · replace h := gTr c h
      refine g_aload_n X dX6_eRead_133 rfl 0 rfl ?_
      refine g_iconst X 0 dX6_eRead_134 (by decide) ?_
      obtain ⟨y22, v23, hc24, h⟩ := gB_inv h
      refine g_callV X (st := []) (st' := [.int y22]) kcX6_opensOne kvX6_opensOne kl6_135 (⟨rfl, rfl, by decide, by decide⟩) (mX6_opensOne hc24) hNM_0 (shM_0 _) rfl rfl rfl (Nat.le_of_ble_eq_true rfl) rfl dX6_eRead_135 ?_
      refine g_if_ne X 143 dX6_eRead_138 (by decide) (fun c => ?_) (fun c => ?_)
      · replace h := gF c h
        refine g_iconst X 1 dX6_eRead_143 (by decide) ?_
        refine g_istore_n X (ls' := [(2, .int 1), (0, .ref (r 0)), (1, .int x1)]) dX6_eRead_144 rfl (by decide) rfl ?_
        refine g_goto X 14 dX6_eRead_145 (by decide) ?_
        refine g_sub X [1, 2, 0] (ls' := [(0, .ref (r 0)), (1, .int x1), (2, .int 1)]) rfl ?_
        exact K14 _ _ _  h
      · replace h := gTr c h
        refine g_iconst X 0 dX6_eRead_141 (by decide) ?_
        exact g_zretR X (Or.inl rfl) h dX6_eRead_142
  · replace h := gTr c h
    refine g_aload_n X dX6_eRead_108 rfl 0 rfl ?_
    refine g_bipush X 19 dX6_eRead_109 (by decide) ?_
    obtain ⟨y25, v26, hc27, h⟩ := gB_inv h
    refine g_callV X (st := []) (st' := [.int y25]) kcX6_opensOne kvX6_opensOne kl6_135 (⟨rfl, rfl, by decide, by decide⟩) (mX6_opensOne hc27) hNM_0 (shM_0 _) rfl rfl rfl (Nat.le_of_ble_eq_true rfl) rfl dX6_eRead_111 ?_
    refine g_if_ne X 119 dX6_eRead_114 (by decide) (fun c => ?_) (fun c => ?_)
    · replace h := gF c h
      refine g_iconst X 0 dX6_eRead_119 (by decide) ?_
      refine g_istore_n X (ls' := [(2, .int 0), (0, .ref (r 0)), (1, .int x1)]) dX6_eRead_120 rfl (by decide) rfl ?_
      refine g_goto X 14 dX6_eRead_121 (by decide) ?_
      refine g_sub X [1, 2, 0] (ls' := [(0, .ref (r 0)), (1, .int x1), (2, .int 0)]) rfl ?_
      exact K14 _ _ _  h
    · replace h := gTr c h
      refine g_iconst X 0 dX6_eRead_117 (by decide) ?_
      exact g_zretR X (Or.inl rfl) h dX6_eRead_118

set_option maxHeartbeats 4000000 in
set_option maxRecDepth 100000 in
theorem bX6_eRead_262 {l : Launch} {D : va_G} {cA : Nat → ClassId} {r : Nat → Nat} {G : gG} {xr : Int32} {v' : gV} {k14 : gV → Int32 → Int32 → Option (Int32 × gV)} (X : XM l D cA r RX6 cX6_eRead 4 (some .boolean) rmX6_eRead (some (.int xr)) v' G) (K14 : ∀ (v : gV) (x1 : Int32) (x2 : Int32), k14 v x1 x2 = some (xr, v') → G v [(0, .ref (r 0)), (1, .int x1), (2, .int x2)] 14 []) (v : gV) (x1 : Int32) (s0 : Int32) (h : fX6_eRead_262 k14 v x1 s0 = some (xr, v')) : G v [(0, .ref (r 0)), (1, .int x1)] 262 [.int s0] := by
  unfold fX6_eRead_262 at h
  refine g_istore_n X (ls' := [(2, .int s0), (0, .ref (r 0)), (1, .int x1)]) dX6_eRead_262 rfl (by decide) rfl ?_
  refine g_goto X 14 dX6_eRead_263 (by decide) ?_
  refine g_sub X [1, 2, 0] (ls' := [(0, .ref (r 0)), (1, .int x1), (2, .int s0)]) rfl ?_
  exact K14 _ _ _  h

set_option maxHeartbeats 4000000 in
set_option maxRecDepth 100000 in
theorem bX6_eRead_14 {l : Launch} {D : va_G} {cA : Nat → ClassId} {r : Nat → Nat} {G : gG} {xr : Int32} {v' : gV} (X : XM l D cA r RX6 cX6_eRead 4 (some .boolean) rmX6_eRead (some (.int xr)) v' G) : ∀ (n : Nat) (v : gV) (x1 : Int32) (x2 : Int32), fX6_eRead_14 n v x1 x2 = some (xr, v') → G v [(0, .ref (r 0)), (1, .int x1), (2, .int x2)] 14 [] := by
  intro n
  induction n with
  | zero => intro v x1 x2 h; rw [fX6_eRead_14] at h; cases h
  | succ n ih =>
    intro v x1 x2 h
    rw [fX6_eRead_14] at h
    refine g_aload_n X dX6_eRead_14 rfl 0 rfl ?_
    obtain ⟨y1, v2, hc3, h⟩ := gB_inv h
    refine g_callV X (st := []) (st' := []) kcX6_next kvX6_next kl6_131 (⟨rfl, rfl, by decide, by decide⟩) (mX6_next hc3) hNM_0 (shM_0 _) rfl rfl rfl (Nat.le_of_ble_eq_true rfl) rfl dX6_eRead_15 ?_
    refine g_iload_n X dX6_eRead_18 rfl 1 rfl ?_
    refine g_if_eq X 150 dX6_eRead_19 (by decide) (fun c => ?_) (fun c => ?_)
    · replace h := gTr c h
      refine g_aload_n X dX6_eRead_150 rfl 0 rfl ?_
      refine g_get X fl6_98 hNM_0 (shM_0 _) rfl dX6_eRead_151 ?_
      refine g_bipush X 59 dX6_eRead_154 (by decide) ?_
      refine g_icmp_ne X 177 dX6_eRead_156 (by decide) (fun c => ?_) (fun c => ?_)
      · replace h := gF c h
        refine g_aload_n X dX6_eRead_177 rfl 0 rfl ?_
        refine g_get X fl6_98 hNM_0 (shM_0 _) rfl dX6_eRead_178 ?_
        refine g_bipush X 41 dX6_eRead_181 (by decide) ?_
        refine g_icmp_ne X 229 dX6_eRead_183 (by decide) (fun c => ?_) (fun c => ?_)
        · replace h := gF c h
          refine g_aload_n X dX6_eRead_229 rfl 0 rfl ?_
          obtain ⟨y4, v5, hc6, h⟩ := gB_inv h
          refine g_callV X (st := []) (st' := [.int y4]) kcX6_signOf kvX6_signOf kl6_138 (⟨rfl, rfl, by decide, by decide⟩) (mX6_signOf hc6) hNM_0 (shM_0 _) rfl rfl rfl (Nat.le_of_ble_eq_true rfl) rfl dX6_eRead_230 ?_
          refine g_istore_n X (ls' := [(3, .int y4), (0, .ref (r 0)), (1, .int x1), (2, .int x2)]) dX6_eRead_233 rfl (by decide) rfl ?_
          refine g_iload_n X dX6_eRead_234 rfl 0 rfl ?_
          refine g_iconst X (-1) dX6_eRead_235 (by decide) ?_
          refine g_icmp_eq X 247 dX6_eRead_236 (by decide) (fun c => ?_) (fun c => ?_)
          · replace h := gTr c h
            refine g_iconst X 0 dX6_eRead_247 (by decide) ?_
            exact g_zretR X (Or.inl rfl) h dX6_eRead_248
          · replace h := gF c h
            refine g_aload_n X dX6_eRead_239 rfl 1 rfl ?_
            refine g_iload_n X dX6_eRead_240 rfl 0 rfl ?_
            obtain ⟨y7, v8, hc9, h⟩ := gB_inv h
            refine g_callV X (st := []) (st' := [.int y7]) kcX6_between kvX6_between kl6_141 (⟨rfl, rfl, by decide, by decide⟩) (mX6_between hc9) hNM_0 (shM_0 _) rfl rfl rfl (Nat.le_of_ble_eq_true rfl) rfl dX6_eRead_241 ?_
            refine g_if_ne X 249 dX6_eRead_244 (by decide) (fun c => ?_) (fun c => ?_)
            · replace h := gF c h
              refine g_iconst X 1 dX6_eRead_249 (by decide) ?_
              refine g_istore_n X (ls' := [(1, .int 1), (3, .int y4), (0, .ref (r 0)), (2, .int x2)]) dX6_eRead_250 rfl (by decide) rfl ?_
              refine g_iload_n X dX6_eRead_251 rfl 1 rfl ?_
              refine g_bipush X 12 dX6_eRead_252 (by decide) ?_
              refine g_icmp_gt X 261 dX6_eRead_254 (by decide) (fun c => ?_) (fun c => ?_)
              · replace h := gTr c h
                refine g_iconst X 0 dX6_eRead_261 (by decide) ?_
                refine g_sub X [2, 0] (ls' := [(0, .ref (r 0)), (1, .int 1)]) rfl ?_
                exact bX6_eRead_262 X ih _ _ _  h
              · replace h := gF c h
                refine g_iconst X 1 dX6_eRead_257 (by decide) ?_
                refine g_goto X 262 dX6_eRead_258 (by decide) ?_
                refine g_sub X [2, 0] (ls' := [(0, .ref (r 0)), (1, .int 1)]) rfl ?_
                exact bX6_eRead_262 X ih _ _ _  h
            · replace h := gTr c h
              refine g_iconst X 0 dX6_eRead_247 (by decide) ?_
              exact g_zretR X (Or.inl rfl) h dX6_eRead_248
        · replace h := gTr c h
          refine g_aload_n X dX6_eRead_186 rfl 0 rfl ?_
          refine g_iconst X 1 dX6_eRead_187 (by decide) ?_
          obtain ⟨y10, v11, hc12, h⟩ := gB_inv h
          refine g_callV X (st := []) (st' := []) kcX6_unwinds kvX6_unwinds kl6_128 (⟨rfl, rfl, by decide, by decide⟩) (mX6_unwinds hc12) hNM_0 (shM_0 _) rfl rfl rfl (Nat.le_of_ble_eq_true rfl) rfl dX6_eRead_188 ?_
          refine g_aload_n X dX6_eRead_191 rfl 0 rfl ?_
          refine g_get X fl6_111 hNM_0 (shM_0 _) rfl dX6_eRead_192 ?_
          refine g_if_ne X 200 dX6_eRead_195 (by decide) (fun c => ?_) (fun c => ?_)
          · replace h := gF c h
            refine g_aload_n X dX6_eRead_200 rfl 0 rfl ?_
            refine g_dup X dX6_eRead_201 rfl ?_
            refine g_get X fl6_111 hNM_0 (shM_0 _) rfl dX6_eRead_202 ?_
            refine g_iconst X 1 dX6_eRead_205 (by decide) ?_
            refine g_isub X dX6_eRead_206 ?_
            refine g_put X (fsM6 r) fp6_111 hNM_0 (shM_0) (fun _ => rfl) (Nat.le_of_ble_eq_true rfl) dX6_eRead_207 ?_
            refine g_aload_n X dX6_eRead_210 rfl 0 rfl ?_
            refine g_dup X dX6_eRead_211 rfl ?_
            refine g_get X fl6_118 hNM_0 (shM_0 _) rfl dX6_eRead_212 ?_
            refine g_iconst X 1 dX6_eRead_215 (by decide) ?_
            refine g_isub X dX6_eRead_216 ?_
            refine g_put X (fsM6 r) fp6_118 hNM_0 (shM_0) (fun _ => rfl) (Nat.le_of_ble_eq_true rfl) dX6_eRead_217 ?_
            refine g_aload_n X dX6_eRead_220 rfl 0 rfl ?_
            refine g_bipush X 7 dX6_eRead_221 (by decide) ?_
            obtain ⟨y13, v14, hc15, h⟩ := gB_inv h
            refine g_callV X (st := []) (st' := []) kcX6_unwinds kvX6_unwinds kl6_128 (⟨rfl, rfl, by decide, by decide⟩) (mX6_unwinds hc15) hNM_0 (shM_0 _) rfl rfl rfl (Nat.le_of_ble_eq_true rfl) rfl dX6_eRead_223 ?_
            refine g_goto X 14 dX6_eRead_226 (by decide) ?_
            exact ih _ _ _  h
          · replace h := gTr c h
            refine g_iconst X 0 dX6_eRead_198 (by decide) ?_
            exact g_zretR X (Or.inl rfl) h dX6_eRead_199
      · replace h := gTr c h
        refine g_aload_n X dX6_eRead_159 rfl 0 rfl ?_
        refine g_iconst X 1 dX6_eRead_160 (by decide) ?_
        obtain ⟨y16, v17, hc18, h⟩ := gB_inv h
        refine g_callV X (st := []) (st' := []) kcX6_unwinds kvX6_unwinds kl6_128 (⟨rfl, rfl, by decide, by decide⟩) (mX6_unwinds hc18) hNM_0 (shM_0 _) rfl rfl rfl (Nat.le_of_ble_eq_true rfl) rfl dX6_eRead_161 ?_
        refine g_aload_n X dX6_eRead_164 rfl 0 rfl ?_
        refine g_get X fl6_111 hNM_0 (shM_0 _) rfl dX6_eRead_165 ?_
        refine g_if_ne X 175 dX6_eRead_168 (by decide) (fun c => ?_) (fun c => ?_)
        · replace h := gF c h
          refine g_iconst X 0 dX6_eRead_175 (by decide) ?_
          exact g_zretR X (Or.inl rfl) h dX6_eRead_176
        · replace h := gTr c h
          refine g_iconst X 1 dX6_eRead_171 (by decide) ?_
          refine g_goto X 176 dX6_eRead_172 (by decide) ?_
          exact g_zretR X (Or.inr rfl) h dX6_eRead_176
    · replace h := gF c h
      refine g_aload_n X dX6_eRead_22 rfl 0 rfl ?_
      refine g_get X fl6_98 hNM_0 (shM_0 _) rfl dX6_eRead_23 ?_
      refine g_iconst X 1 dX6_eRead_26 (by decide) ?_
      refine g_icmp_eq X 38 dX6_eRead_27 (by decide) (fun c => ?_) (fun c => ?_)
      · replace h := gTr c h
        refine g_sub X [0, 2] (ls' := [(0, .ref (r 0)), (2, .int x2)]) rfl ?_
        exact bX6_eRead_38 X ih _ _  h
      · replace h := gF c h
        refine g_aload_n X dX6_eRead_30 rfl 0 rfl ?_
        refine g_get X fl6_98 hNM_0 (shM_0 _) rfl dX6_eRead_31 ?_
        refine g_iconst X 2 dX6_eRead_34 (by decide) ?_
        refine g_icmp_ne X 75 dX6_eRead_35 (by decide) (fun c => ?_) (fun c => ?_)
        · replace h := gF c h
          refine g_aload_n X dX6_eRead_75 rfl 0 rfl ?_
          refine g_get X fl6_98 hNM_0 (shM_0 _) rfl dX6_eRead_76 ?_
          refine g_bipush X 6 dX6_eRead_79 (by decide) ?_
          refine g_icmp_ne X 99 dX6_eRead_81 (by decide) (fun c => ?_) (fun c => ?_)
          · replace h := gF c h
            refine g_sub X [0, 1] (ls' := [(0, .ref (r 0)), (1, .int x1)]) rfl ?_
            exact bX6_eRead_99 X ih _ _  h
          · replace h := gTr c h
            refine g_iload_n X dX6_eRead_84 rfl 2 rfl ?_
            refine g_if_eq X 99 dX6_eRead_85 (by decide) (fun c => ?_) (fun c => ?_)
            · replace h := gTr c h
              refine g_sub X [0, 1] (ls' := [(0, .ref (r 0)), (1, .int x1)]) rfl ?_
              exact bX6_eRead_99 X ih _ _  h
            · replace h := gF c h
              refine g_aload_n X dX6_eRead_88 rfl 0 rfl ?_
              refine g_bipush X 13 dX6_eRead_89 (by decide) ?_
              obtain ⟨y19, v20, hc21, h⟩ := gB_inv h
              refine g_callV X (st := []) (st' := [.int y19]) kcX6_opensOne kvX6_opensOne kl6_135 (⟨rfl, rfl, by decide, by decide⟩) (mX6_opensOne hc21) hNM_0 (shM_0 _) rfl rfl rfl (Nat.le_of_ble_eq_true rfl) rfl dX6_eRead_91 ?_
              refine g_if_ne X 14 dX6_eRead_94 (by decide) (fun c => ?_) (fun c => ?_)
              · replace h := gF c h
                exact ih _ _ _  h
              · replace h := gTr c h
                refine g_iconst X 0 dX6_eRead_97 (by decide) ?_
                exact g_zretR X (Or.inl rfl) h dX6_eRead_98
        · replace h := gTr c h
          refine g_sub X [0, 2] (ls' := [(0, .ref (r 0)), (2, .int x2)]) rfl ?_
          exact bX6_eRead_38 X ih _ _  h

set_option maxHeartbeats 4000000 in
set_option maxRecDepth 100000 in
theorem bX6_eRead_0 {l : Launch} {D : va_G} {cA : Nat → ClassId} {r : Nat → Nat} {G : gG} {xr : Int32} {v' : gV} (X : XM l D cA r RX6 cX6_eRead 4 (some .boolean) rmX6_eRead (some (.int xr)) v' G) (v : gV)  (h : fX6_eRead v  = some (xr, v')) : G v [(0, .ref (r 0))] 0 [] := by
  unfold fX6_eRead at h
  refine g_aload_n X dX6_eRead_0 rfl 0 rfl ?_
  refine g_iconst X 0 dX6_eRead_1 (by decide) ?_
  refine g_put X (fsM6 r) fp6_111 hNM_0 (shM_0) (fun _ => rfl) (Nat.le_of_ble_eq_true rfl) dX6_eRead_2 ?_
  refine g_aload_n X dX6_eRead_5 rfl 0 rfl ?_
  refine g_iconst X 0 dX6_eRead_6 (by decide) ?_
  refine g_put X (fsM6 r) fp6_118 hNM_0 (shM_0) (fun _ => rfl) (Nat.le_of_ble_eq_true rfl) dX6_eRead_7 ?_
  refine g_iconst X 1 dX6_eRead_10 (by decide) ?_
  refine g_istore_n X (ls' := [(1, .int 1), (0, .ref (r 0))]) dX6_eRead_11 rfl (by decide) rfl ?_
  refine g_iconst X 1 dX6_eRead_12 (by decide) ?_
  refine g_istore_n X (ls' := [(2, .int 1), (1, .int 1), (0, .ref (r 0))]) dX6_eRead_13 rfl (by decide) rfl ?_
  refine g_sub X [2, 1, 0] (ls' := [(0, .ref (r 0)), (1, .int 1), (2, .int 1)]) rfl ?_
  exact bX6_eRead_14 X  _ _ _ _  h

theorem mX6_eRead {l : Launch} {D : va_G} {cA : Nat → ClassId} {r : Nat → Nat} {v : gV}  {xr : Int32} {v' : gV} (h : fX6_eRead v  = some (xr, v')) : Ct l D (tysM cA) (shM cA r) 19 r (ZM r) yX6_eRead cX6_eRead 4 (some .boolean) rmX6_eRead [.ref (r 0)] v (some (.int xr)) v' := ct_of plX6 ZM_ok (Nat.le_of_ble_eq_true rfl) rfl (fun _ X => bX6_eRead_0 X v  h)

def rmX6_text : Room := { frames := 4, cells := 0, slots := 0, locals := 87 }

set_option maxHeartbeats 4000000 in
set_option maxRecDepth 100000 in
theorem bX6_text_94 {l : Launch} {D : va_G} {cA : Nat → ClassId} {r : Nat → Nat} {G : gG} {xr : Int32} {v' : gV} {k26 : gV → Int32 → Int32 → Option (Int32 × gV)} (X : XM l D cA r RX6 cX6_text 3 (some .int) rmX6_text (some (.int xr)) v' G) (K26 : ∀ (v : gV) (x1 : Int32) (x2 : Int32), k26 v x1 x2 = some (xr, v') → G v [(0, .ref (r 0)), (1, .int x1), (2, .int x2)] 26 []) (v : gV) (x2 : Int32) (s0 : Int32) (h : fX6_text_94 k26 v x2 s0 = some (xr, v')) : G v [(0, .ref (r 0)), (2, .int x2)] 94 [.int s0] := by
  unfold fX6_text_94 at h
  refine g_istore_n X (ls' := [(1, .int s0), (0, .ref (r 0)), (2, .int x2)]) dX6_text_94 rfl (by decide) rfl ?_
  refine g_iinc X (x2 + 1) [(2, .int (x2 + 1)), (1, .int s0), (0, .ref (r 0))] dX6_text_95 2 rfl rfl (by decide) rfl ?_
  refine g_goto X 26 dX6_text_98 (by decide) ?_
  refine g_sub X [2, 1, 0] (ls' := [(0, .ref (r 0)), (1, .int s0), (2, .int (x2 + 1))]) rfl ?_
  exact K26 _ _ _  h

set_option maxHeartbeats 4000000 in
set_option maxRecDepth 100000 in
theorem bX6_text_93 {l : Launch} {D : va_G} {cA : Nat → ClassId} {r : Nat → Nat} {G : gG} {xr : Int32} {v' : gV} {k26 : gV → Int32 → Int32 → Option (Int32 × gV)} (X : XM l D cA r RX6 cX6_text 3 (some .int) rmX6_text (some (.int xr)) v' G) (K26 : ∀ (v : gV) (x1 : Int32) (x2 : Int32), k26 v x1 x2 = some (xr, v') → G v [(0, .ref (r 0)), (1, .int x1), (2, .int x2)] 26 []) (v : gV) (x2 : Int32) (h : fX6_text_93 k26 v x2 = some (xr, v')) : G v [(0, .ref (r 0)), (2, .int x2)] 93 [] := by
  unfold fX6_text_93 at h
  refine g_iconst X 0 dX6_text_93 (by decide) ?_
  exact bX6_text_94 X K26 _ _ _  h

set_option maxHeartbeats 4000000 in
set_option maxRecDepth 100000 in
theorem bX6_text_60 {l : Launch} {D : va_G} {cA : Nat → ClassId} {r : Nat → Nat} {G : gG} {xr : Int32} {v' : gV} {k26 : gV → Int32 → Int32 → Option (Int32 × gV)} (X : XM l D cA r RX6 cX6_text 3 (some .int) rmX6_text (some (.int xr)) v' G) (K26 : ∀ (v : gV) (x1 : Int32) (x2 : Int32), k26 v x1 x2 = some (xr, v') → G v [(0, .ref (r 0)), (1, .int x1), (2, .int x2)] 26 []) (v : gV) (x2 : Int32) (s0 : Int32) (h : fX6_text_60 k26 v x2 s0 = some (xr, v')) : G v [(0, .ref (r 0)), (2, .int x2)] 60 [.int s0] := by
  unfold fX6_text_60 at h
  refine g_istore_n X (ls' := [(1, .int s0), (0, .ref (r 0)), (2, .int x2)]) dX6_text_60 rfl (by decide) rfl ?_
  refine g_aload_n X dX6_text_61 rfl 1 rfl ?_
  refine g_get X fl6_35 hNM_0 (shM_0 _) rfl dX6_text_62 ?_
  refine g_iconst X 4 dX6_text_65 (by decide) ?_
  refine g_aload_n X dX6_text_66 rfl 1 rfl ?_
  refine g_get X fl6_82 hNM_0 (shM_0 _) rfl dX6_text_67 ?_
  refine g_imul X dX6_text_70 ?_
  refine g_iload_n X dX6_text_71 rfl 2 rfl ?_
  refine g_iadd X dX6_text_72 ?_
  refine g_aload_n X dX6_text_73 rfl 1 rfl ?_
  refine g_get X fl6_108 hNM_0 (shM_0 _) rfl dX6_text_74 ?_
  obtain ⟨c, h⟩ := gGd h
  refine g_iast X hNM_8 (shM_8) rfl (gin_in c) dX6_text_77 ?_
  refine g_iload_n X dX6_text_78 rfl 0 rfl ?_
  refine g_if_eq X 93 dX6_text_79 (by decide) (fun c => ?_) (fun c => ?_)
  · replace h := gTr c h
    refine g_sub X [1, 2] (ls' := [(0, .ref (r 0)), (2, .int x2)]) rfl ?_
    exact bX6_text_93 X K26 _ _  h
  · replace h := gF c h
    refine g_aload_n X dX6_text_82 rfl 1 rfl ?_
    obtain ⟨y7, v8, hc9, h⟩ := gB_inv h
    refine g_callV X (st := []) (st' := [.int y7]) kcX6_eRead kvX6_eRead kl6_144 (⟨rfl, rfl, by decide, by decide⟩) (mX6_eRead hc9) hNM_0 (shM_0 _) rfl rfl rfl (Nat.le_of_ble_eq_true rfl) rfl dX6_text_83 ?_
    refine g_if_eq X 93 dX6_text_86 (by decide) (fun c => ?_) (fun c => ?_)
    · replace h := gTr c h
      refine g_sub X [1, 2] (ls' := [(0, .ref (r 0)), (2, .int x2)]) rfl ?_
      exact bX6_text_93 X K26 _ _  h
    · replace h := gF c h
      refine g_iconst X 1 dX6_text_89 (by decide) ?_
      refine g_goto X 94 dX6_text_90 (by decide) ?_
      refine g_sub X [1, 2] (ls' := [(0, .ref (r 0)), (2, .int x2)]) rfl ?_
      exact bX6_text_94 X K26 _ _ _  h

set_option maxHeartbeats 4000000 in
set_option maxRecDepth 100000 in
theorem bX6_text_59 {l : Launch} {D : va_G} {cA : Nat → ClassId} {r : Nat → Nat} {G : gG} {xr : Int32} {v' : gV} {k26 : gV → Int32 → Int32 → Option (Int32 × gV)} (X : XM l D cA r RX6 cX6_text 3 (some .int) rmX6_text (some (.int xr)) v' G) (K26 : ∀ (v : gV) (x1 : Int32) (x2 : Int32), k26 v x1 x2 = some (xr, v') → G v [(0, .ref (r 0)), (1, .int x1), (2, .int x2)] 26 []) (v : gV) (x2 : Int32) (h : fX6_text_59 k26 v x2 = some (xr, v')) : G v [(0, .ref (r 0)), (2, .int x2)] 59 [] := by
  unfold fX6_text_59 at h
  refine g_iconst X 0 dX6_text_59 (by decide) ?_
  exact bX6_text_60 X K26 _ _ _  h

set_option maxHeartbeats 4000000 in
set_option maxRecDepth 100000 in
theorem bX6_text_122 {l : Launch} {D : va_G} {cA : Nat → ClassId} {r : Nat → Nat} {G : gG} {xr : Int32} {v' : gV} (X : XM l D cA r RX6 cX6_text 3 (some .int) rmX6_text (some (.int xr)) v' G) (v : gV) (x1 : Int32) (h : fX6_text_122 v x1 = some (xr, v')) : G v [(0, .ref (r 0)), (1, .int x1)] 122 [] := by
  unfold fX6_text_122 at h
  refine g_aload_n X dX6_text_122 rfl 0 rfl ?_
  refine g_get X fl6_35 hNM_0 (shM_0 _) rfl dX6_text_123 ?_
  refine g_iconst X 4 dX6_text_126 (by decide) ?_
  refine g_aload_n X dX6_text_127 rfl 0 rfl ?_
  refine g_get X fl6_82 hNM_0 (shM_0 _) rfl dX6_text_128 ?_
  refine g_imul X dX6_text_131 ?_
  refine g_iconst X 3 dX6_text_132 (by decide) ?_
  refine g_iadd X dX6_text_133 ?_
  refine g_aload_n X dX6_text_134 rfl 0 rfl ?_
  refine g_get X fl6_108 hNM_0 (shM_0 _) rfl dX6_text_135 ?_
  obtain ⟨c, h⟩ := gGd h
  refine g_iast X hNM_8 (shM_8) rfl (gin_in c) dX6_text_138 ?_
  refine g_aload_n X dX6_text_139 rfl 0 rfl ?_
  refine g_iconst X 0 dX6_text_140 (by decide) ?_
  refine g_put X (fsM6 r) fp6_68 hNM_0 (shM_0) (fun _ => rfl) (Nat.le_of_ble_eq_true rfl) dX6_text_141 ?_
  refine g_iload_n X dX6_text_144 rfl 1 rfl ?_
  refine g_if_ne X 156 dX6_text_145 (by decide) (fun c => ?_) (fun c => ?_)
  · replace h := gF c h
    refine g_aload_n X dX6_text_156 rfl 0 rfl ?_
    refine g_dup X dX6_text_157 rfl ?_
    refine g_get X fl6_82 hNM_0 (shM_0 _) rfl dX6_text_158 ?_
    refine g_iconst X 1 dX6_text_161 (by decide) ?_
    refine g_iadd X dX6_text_162 ?_
    refine g_put X (fsM6 r) fp6_82 hNM_0 (shM_0) (fun _ => rfl) (Nat.le_of_ble_eq_true rfl) dX6_text_163 ?_
    refine g_aload_n X dX6_text_166 rfl 0 rfl ?_
    refine g_get X fl6_82 hNM_0 (shM_0 _) rfl dX6_text_167 ?_
    refine g_iconst X 1 dX6_text_170 (by decide) ?_
    refine g_isub X dX6_text_171 ?_
    exact g_iretR X h dX6_text_172
  · replace h := gTr c h
    refine g_bipush X (-100) dX6_text_148 (by decide) ?_
    refine g_aload_n X dX6_text_150 rfl 0 rfl ?_
    refine g_get X fl6_95 hNM_0 (shM_0 _) rfl dX6_text_151 ?_
    refine g_isub X dX6_text_154 ?_
    exact g_iretR X h dX6_text_155

set_option maxHeartbeats 4000000 in
set_option maxRecDepth 100000 in
theorem bX6_text_121 {l : Launch} {D : va_G} {cA : Nat → ClassId} {r : Nat → Nat} {G : gG} {xr : Int32} {v' : gV} (X : XM l D cA r RX6 cX6_text 3 (some .int) rmX6_text (some (.int xr)) v' G) (v : gV) (s0 : Int32) (h : fX6_text_121 v s0 = some (xr, v')) : G v [(0, .ref (r 0))] 121 [.int s0] := by
  unfold fX6_text_121 at h
  refine g_istore_n X (ls' := [(1, .int s0), (0, .ref (r 0))]) dX6_text_121 rfl (by decide) rfl ?_
  refine g_sub X [1, 0] (ls' := [(0, .ref (r 0)), (1, .int s0)]) rfl ?_
  exact bX6_text_122 X  _ _  h

set_option maxHeartbeats 4000000 in
set_option maxRecDepth 100000 in
theorem bX6_text_101 {l : Launch} {D : va_G} {cA : Nat → ClassId} {r : Nat → Nat} {G : gG} {xr : Int32} {v' : gV} (X : XM l D cA r RX6 cX6_text 3 (some .int) rmX6_text (some (.int xr)) v' G) (v : gV) (x1 : Int32) (h : fX6_text_101 v x1 = some (xr, v')) : G v [(0, .ref (r 0)), (1, .int x1)] 101 [] := by
  unfold fX6_text_101 at h
  refine g_iload_n X dX6_text_101 rfl 1 rfl ?_
  refine g_if_eq X 122 dX6_text_102 (by decide) (fun c => ?_) (fun c => ?_)
  · replace h := gTr c h
    exact bX6_text_122 X  _ _  h
  · replace h := gF c h
    refine g_aload_n X dX6_text_105 rfl 0 rfl ?_
    obtain ⟨y4, v5, hc6, h⟩ := gB_inv h
    refine g_callV X (st := []) (st' := []) kcX6_next kvX6_next kl6_131 (⟨rfl, rfl, by decide, by decide⟩) (mX6_next hc6) hNM_0 (shM_0 _) rfl rfl rfl (Nat.le_of_ble_eq_true rfl) rfl dX6_text_106 ?_
    refine g_aload_n X dX6_text_109 rfl 0 rfl ?_
    refine g_get X fl6_98 hNM_0 (shM_0 _) rfl dX6_text_110 ?_
    refine g_if_ne X 120 dX6_text_113 (by decide) (fun c => ?_) (fun c => ?_)
    · replace h := gF c h
      refine g_iconst X 0 dX6_text_120 (by decide) ?_
      refine g_sub X [0] (ls' := [(0, .ref (r 0))]) rfl ?_
      exact bX6_text_121 X  _ _  h
    · replace h := gTr c h
      refine g_iconst X 1 dX6_text_116 (by decide) ?_
      refine g_goto X 121 dX6_text_117 (by decide) ?_
      refine g_sub X [0] (ls' := [(0, .ref (r 0))]) rfl ?_
      exact bX6_text_121 X  _ _  h

set_option maxHeartbeats 4000000 in
set_option maxRecDepth 100000 in
theorem bX6_text_26 {l : Launch} {D : va_G} {cA : Nat → ClassId} {r : Nat → Nat} {G : gG} {xr : Int32} {v' : gV} (X : XM l D cA r RX6 cX6_text 3 (some .int) rmX6_text (some (.int xr)) v' G) : ∀ (n : Nat) (v : gV) (x1 : Int32) (x2 : Int32), fX6_text_26 n v x1 x2 = some (xr, v') → G v [(0, .ref (r 0)), (1, .int x1), (2, .int x2)] 26 [] := by
  intro n
  induction n with
  | zero => intro v x1 x2 h; rw [fX6_text_26] at h; cases h
  | succ n ih =>
    intro v x1 x2 h
    rw [fX6_text_26] at h
    refine g_iload_n X dX6_text_26 rfl 2 rfl ?_
    refine g_iconst X 3 dX6_text_27 (by decide) ?_
    refine g_icmp_ge X 101 dX6_text_28 (by decide) (fun c => ?_) (fun c => ?_)
    · replace h := gTr c h
      refine g_sub X [0, 1] (ls' := [(0, .ref (r 0)), (1, .int x1)]) rfl ?_
      exact bX6_text_101 X  _ _  h
    · replace h := gF c h
      refine g_iload_n X dX6_text_31 rfl 1 rfl ?_
      refine g_if_eq X 101 dX6_text_32 (by decide) (fun c => ?_) (fun c => ?_)
      · replace h := gTr c h
        refine g_sub X [0, 1] (ls' := [(0, .ref (r 0)), (1, .int x1)]) rfl ?_
        exact bX6_text_101 X  _ _  h
      · replace h := gF c h
        refine g_aload_n X dX6_text_35 rfl 0 rfl ?_
        obtain ⟨y1, v2, hc3, h⟩ := gB_inv h
        refine g_callV X (st := []) (st' := []) kcX6_next kvX6_next kl6_131 (⟨rfl, rfl, by decide, by decide⟩) (mX6_next hc3) hNM_0 (shM_0 _) rfl rfl rfl (Nat.le_of_ble_eq_true rfl) rfl dX6_text_36 ?_
        refine g_aload_n X dX6_text_39 rfl 0 rfl ?_
        refine g_get X fl6_98 hNM_0 (shM_0 _) rfl dX6_text_40 ?_
        refine g_iconst X 3 dX6_text_43 (by decide) ?_
        refine g_icmp_ne X 59 dX6_text_44 (by decide) (fun c => ?_) (fun c => ?_)
        · replace h := gF c h
          refine g_sub X [0, 2] (ls' := [(0, .ref (r 0)), (2, .int x2)]) rfl ?_
          exact bX6_text_59 X ih _ _  h
        · replace h := gTr c h
          refine g_aload_n X dX6_text_47 rfl 0 rfl ?_
          refine g_get X fl6_101 hNM_0 (shM_0 _) rfl dX6_text_48 ?_
          refine g_iload_n X dX6_text_51 rfl 2 rfl ?_
          refine g_icmp_ne X 59 dX6_text_52 (by decide) (fun c => ?_) (fun c => ?_)
          · replace h := gF c h
            refine g_sub X [0, 2] (ls' := [(0, .ref (r 0)), (2, .int x2)]) rfl ?_
            exact bX6_text_59 X ih _ _  h
          · replace h := gTr c h
            refine g_iconst X 1 dX6_text_55 (by decide) ?_
            refine g_goto X 60 dX6_text_56 (by decide) ?_
            refine g_sub X [0, 2] (ls' := [(0, .ref (r 0)), (2, .int x2)]) rfl ?_
            exact bX6_text_60 X ih _ _ _  h

set_option maxHeartbeats 4000000 in
set_option maxRecDepth 100000 in
theorem bX6_text_0 {l : Launch} {D : va_G} {cA : Nat → ClassId} {r : Nat → Nat} {G : gG} {xr : Int32} {v' : gV} (X : XM l D cA r RX6 cX6_text 3 (some .int) rmX6_text (some (.int xr)) v' G) (v : gV)  (h : fX6_text v  = some (xr, v')) : G v [(0, .ref (r 0))] 0 [] := by
  unfold fX6_text at h
  refine g_aload_n X dX6_text_0 rfl 0 rfl ?_
  refine g_get X fl6_82 hNM_0 (shM_0 _) rfl dX6_text_1 ?_
  refine g_bipush X 6 dX6_text_4 (by decide) ?_
  refine g_icmp_ne X 12 dX6_text_6 (by decide) (fun c => ?_) (fun c => ?_)
  · replace h := gF c h
    refine g_aload_n X dX6_text_12 rfl 0 rfl ?_
    refine g_iconst X 0 dX6_text_13 (by decide) ?_
    refine g_put X (fsM6 r) fp6_92 hNM_0 (shM_0) (fun _ => rfl) (Nat.le_of_ble_eq_true rfl) dX6_text_14 ?_
    refine g_aload_n X dX6_text_17 rfl 0 rfl ?_
    refine g_iconst X 0 dX6_text_18 (by decide) ?_
    refine g_put X (fsM6 r) fp6_108 hNM_0 (shM_0) (fun _ => rfl) (Nat.le_of_ble_eq_true rfl) dX6_text_19 ?_
    refine g_iconst X 1 dX6_text_22 (by decide) ?_
    refine g_istore_n X (ls' := [(1, .int 1), (0, .ref (r 0))]) dX6_text_23 rfl (by decide) rfl ?_
    refine g_iconst X 0 dX6_text_24 (by decide) ?_
    refine g_istore_n X (ls' := [(2, .int 0), (1, .int 1), (0, .ref (r 0))]) dX6_text_25 rfl (by decide) rfl ?_
    refine g_sub X [2, 1, 0] (ls' := [(0, .ref (r 0)), (1, .int 1), (2, .int 0)]) rfl ?_
    exact bX6_text_26 X  _ _ _ _  h
  · replace h := gTr c h
    refine g_bipush X (-4) dX6_text_9 (by decide) ?_
    exact g_iretR X h dX6_text_11

theorem mX6_text {l : Launch} {D : va_G} {cA : Nat → ClassId} {r : Nat → Nat} {v : gV}  {xr : Int32} {v' : gV} (h : fX6_text v  = some (xr, v')) : Ct l D (tysM cA) (shM cA r) 19 r (ZM r) yX6_text cX6_text 3 (some .int) rmX6_text [.ref (r 0)] v (some (.int xr)) v' := ct_of plX6 ZM_ok (Nat.le_of_ble_eq_true rfl) rfl (fun _ X => bX6_text_0 X v  h)

def rmX6_two : Room := { frames := 0, cells := 0, slots := 0, locals := 0 }

set_option maxHeartbeats 4000000 in
set_option maxRecDepth 100000 in
theorem bX6_two_52 {l : Launch} {D : va_G} {cA : Nat → ClassId} {r : Nat → Nat} {G : gG} {xr : Int32} {v' : gV} (X : XM l D cA r RX6 cX6_two 3 (some .int) rmX6_two (some (.int xr)) v' G) (v : gV)  (h : fX6_two_52 v  = some (xr, v')) : G v [] 52 [] := by
  unfold fX6_two_52 at h
  refine g_iconst X 1 dX6_two_52 (by decide) ?_
  refine g_goto X 57 dX6_two_53 (by decide) ?_
  exact g_iretR X h dX6_two_57

set_option maxHeartbeats 4000000 in
set_option maxRecDepth 100000 in
theorem bX6_two_0 {l : Launch} {D : va_G} {cA : Nat → ClassId} {r : Nat → Nat} {G : gG} {xr : Int32} {v' : gV} (X : XM l D cA r RX6 cX6_two 3 (some .int) rmX6_two (some (.int xr)) v' G) (v : gV) (x0 : Int32) (x1 : Int32) (x2 : Int32) (h : fX6_two v x0 x1 x2 = some (xr, v')) : G v [(0, .int x0), (1, .int x1), (2, .int x2)] 0 [] := by
  unfold fX6_two at h
  refine g_iload_n X dX6_two_0 rfl 0 rfl ?_
  by_cases c : x0 = 11
  · replace h := gTr c h
    refine g_tableIn X 44 dX6_two_1 (by rw [c]; decide) (by rw [c]; decide) (by rw [c]; rfl) (by decide) ?_
    refine g_iload_n X dX6_two_44 rfl 1 rfl ?_
    refine g_if_ne X 52 dX6_two_45 (by decide) (fun c => ?_) (fun c => ?_)
    · replace h := gF c h
      refine g_sub X [] (ls' := []) rfl ?_
      exact bX6_two_52 X  _   h
    · replace h := gTr c h
      refine g_iload_n X dX6_two_48 rfl 2 rfl ?_
      refine g_if_eq X 56 dX6_two_49 (by decide) (fun c => ?_) (fun c => ?_)
      · replace h := gTr c h
        refine g_iconst X 0 dX6_two_56 (by decide) ?_
        exact g_iretR X h dX6_two_57
      · replace h := gF c h
        refine g_sub X [] (ls' := []) rfl ?_
        exact bX6_two_52 X  _   h
  · replace h := gF c h
    have n11 : (x0).toInt ≠ 11 := fun q => c (Int32.toInt_inj.mp (q.trans (by decide)))
    clear c
    by_cases c : x0 = 12
    · replace h := gTr c h
      refine g_tableIn X 58 dX6_two_1 (by rw [c]; decide) (by rw [c]; decide) (by rw [c]; rfl) (by decide) ?_
      refine g_iload_n X dX6_two_58 rfl 1 rfl ?_
      refine g_if_eq X 70 dX6_two_59 (by decide) (fun c => ?_) (fun c => ?_)
      · replace h := gTr c h
        refine g_iconst X 0 dX6_two_70 (by decide) ?_
        exact g_iretR X h dX6_two_71
      · replace h := gF c h
        refine g_iload_n X dX6_two_62 rfl 2 rfl ?_
        refine g_if_eq X 70 dX6_two_63 (by decide) (fun c => ?_) (fun c => ?_)
        · replace h := gTr c h
          refine g_iconst X 0 dX6_two_70 (by decide) ?_
          exact g_iretR X h dX6_two_71
        · replace h := gF c h
          refine g_iconst X 1 dX6_two_66 (by decide) ?_
          refine g_goto X 71 dX6_two_67 (by decide) ?_
          exact g_iretR X h dX6_two_71
    · replace h := gF c h
      have n12 : (x0).toInt ≠ 12 := fun q => c (Int32.toInt_inj.mp (q.trans (by decide)))
      clear c
      by_cases c : x0 = 13
      · replace h := gTr c h
        refine g_tableIn X 102 dX6_two_1 (by rw [c]; decide) (by rw [c]; decide) (by rw [c]; rfl) (by decide) ?_
        refine g_iload_n X dX6_two_102 rfl 1 rfl ?_
        refine g_iload_n X dX6_two_103 rfl 2 rfl ?_
        refine g_imul X dX6_two_104 ?_
        exact g_iretR X h dX6_two_105
      · replace h := gF c h
        have n13 : (x0).toInt ≠ 13 := fun q => c (Int32.toInt_inj.mp (q.trans (by decide)))
        clear c
        by_cases c : x0 = 14
        · replace h := gTr c h
          refine g_tableIn X 72 dX6_two_1 (by rw [c]; decide) (by rw [c]; decide) (by rw [c]; rfl) (by decide) ?_
          refine g_iload_n X dX6_two_72 rfl 1 rfl ?_
          refine g_iload_n X dX6_two_73 rfl 2 rfl ?_
          refine g_icmp_ge X 81 dX6_two_74 (by decide) (fun c => ?_) (fun c => ?_)
          · replace h := gTr c h
            refine g_iconst X 0 dX6_two_81 (by decide) ?_
            exact g_iretR X h dX6_two_82
          · replace h := gF c h
            refine g_iconst X 1 dX6_two_77 (by decide) ?_
            refine g_goto X 82 dX6_two_78 (by decide) ?_
            exact g_iretR X h dX6_two_82
        · replace h := gF c h
          have n14 : (x0).toInt ≠ 14 := fun q => c (Int32.toInt_inj.mp (q.trans (by decide)))
          clear c
          by_cases c : x0 = 15
          · replace h := gTr c h
            refine g_tableIn X 83 dX6_two_1 (by rw [c]; decide) (by rw [c]; decide) (by rw [c]; rfl) (by decide) ?_
            refine g_iload_n X dX6_two_83 rfl 1 rfl ?_
            refine g_iload_n X dX6_two_84 rfl 2 rfl ?_
            refine g_icmp_ne X 92 dX6_two_85 (by decide) (fun c => ?_) (fun c => ?_)
            · replace h := gF c h
              refine g_iconst X 0 dX6_two_92 (by decide) ?_
              exact g_iretR X h dX6_two_93
            · replace h := gTr c h
              refine g_iconst X 1 dX6_two_88 (by decide) ?_
              refine g_goto X 93 dX6_two_89 (by decide) ?_
              exact g_iretR X h dX6_two_93
          · replace h := gF c h
            have n15 : (x0).toInt ≠ 15 := fun q => c (Int32.toInt_inj.mp (q.trans (by decide)))
            clear c
            by_cases c : x0 = 16
            · replace h := gTr c h
              refine g_tableIn X 94 dX6_two_1 (by rw [c]; decide) (by rw [c]; decide) (by rw [c]; rfl) (by decide) ?_
              refine g_iload_n X dX6_two_94 rfl 1 rfl ?_
              refine g_iload_n X dX6_two_95 rfl 2 rfl ?_
              refine g_iadd X dX6_two_96 ?_
              exact g_iretR X h dX6_two_97
            · replace h := gF c h
              have n16 : (x0).toInt ≠ 16 := fun q => c (Int32.toInt_inj.mp (q.trans (by decide)))
              clear c
              by_cases c : x0 = 17
              · replace h := gTr c h
                refine g_tableIn X 98 dX6_two_1 (by rw [c]; decide) (by rw [c]; decide) (by rw [c]; rfl) (by decide) ?_
                refine g_iload_n X dX6_two_98 rfl 1 rfl ?_
                refine g_iload_n X dX6_two_99 rfl 2 rfl ?_
                refine g_isub X dX6_two_100 ?_
                exact g_iretR X h dX6_two_101
              · replace h := gF c h
                have n17 : (x0).toInt ≠ 17 := fun q => c (Int32.toInt_inj.mp (q.trans (by decide)))
                clear c
                refine g_tableOut X 102 dX6_two_1 (by omega) (by decide) ?_
                refine g_iload_n X dX6_two_102 rfl 1 rfl ?_
                refine g_iload_n X dX6_two_103 rfl 2 rfl ?_
                refine g_imul X dX6_two_104 ?_
                exact g_iretR X h dX6_two_105

theorem mX6_two {l : Launch} {D : va_G} {cA : Nat → ClassId} {r : Nat → Nat} {v : gV} {x0 : Int32} {x1 : Int32} {x2 : Int32} {xr : Int32} {v' : gV} (h : fX6_two v x0 x1 x2 = some (xr, v')) : Ct l D (tysM cA) (shM cA r) 19 r (ZM r) yX6_two cX6_two 3 (some .int) rmX6_two [.int x0, .int x1, .int x2] v (some (.int xr)) v' := ct_of plX6 ZM_ok (Nat.le_of_ble_eq_true rfl) rfl (fun _ X => bX6_two_0 X v x0 x1 x2 h)

def rmX6_says : Room := { frames := 1, cells := 0, slots := 0, locals := 22 }

set_option maxHeartbeats 4000000 in
set_option maxRecDepth 100000 in
theorem bX6_says_191 {l : Launch} {D : va_G} {cA : Nat → ClassId} {r : Nat → Nat} {G : gG} {xr : Int32} {v' : gV} {k16 : gV → Int32 → Int32 → Int32 → Option (Int32 × gV)} (X : XM l D cA r RX6 cX6_says 5 (some .int) rmX6_says (some (.int xr)) v' G) (K16 : ∀ (v : gV) (x1 : Int32) (x2 : Int32) (x3 : Int32), k16 v x1 x2 x3 = some (xr, v') → G v [(0, .ref (r 0)), (1, .int x1), (2, .int x2), (3, .int x3)] 16 []) (v : gV) (x1 : Int32) (x2 : Int32) (x3 : Int32) (h : fX6_says_191 k16 v x1 x2 x3 = some (xr, v')) : G v [(0, .ref (r 0)), (1, .int x1), (2, .int x2), (3, .int x3)] 191 [] := by
  unfold fX6_says_191 at h
  refine g_iinc X (x3 + 1) [(3, .int (x3 + 1)), (0, .ref (r 0)), (1, .int x1), (2, .int x2)] dX6_says_191 3 rfl rfl (by decide) rfl ?_
  refine g_goto X 16 dX6_says_194 (by decide) ?_
  refine g_sub X [1, 2, 3, 0] (ls' := [(0, .ref (r 0)), (1, .int x1), (2, .int x2), (3, .int (x3 + 1))]) rfl ?_
  exact K16 _ _ _ _  h

set_option maxHeartbeats 4000000 in
set_option maxRecDepth 100000 in
theorem bX6_says_93 {l : Launch} {D : va_G} {cA : Nat → ClassId} {r : Nat → Nat} {G : gG} {xr : Int32} {v' : gV} {k16 : gV → Int32 → Int32 → Int32 → Option (Int32 × gV)} (X : XM l D cA r RX6 cX6_says 5 (some .int) rmX6_says (some (.int xr)) v' G) (K16 : ∀ (v : gV) (x1 : Int32) (x2 : Int32) (x3 : Int32), k16 v x1 x2 x3 = some (xr, v') → G v [(0, .ref (r 0)), (1, .int x1), (2, .int x2), (3, .int x3)] 16 []) (v : gV) (x1 : Int32) (x2 : Int32) (x3 : Int32) (s1 : Int32) (s2 : Int32) (h : fX6_says_93 k16 v x1 x2 x3 s1 s2 = some (xr, v')) : G v [(0, .ref (r 0)), (1, .int x1), (2, .int x2), (3, .int x3)] 93 [.int s2, .int s1, .ref (r 16)] := by
  unfold fX6_says_93 at h
  obtain ⟨c, h⟩ := gGd h
  refine g_iast X hNM_16 (shM_16) rfl (gin_in c) dX6_says_93 ?_
  refine g_iinc X (x2 + 1) [(2, .int (x2 + 1)), (0, .ref (r 0)), (1, .int x1), (3, .int x3)] dX6_says_94 2 rfl rfl (by decide) rfl ?_
  refine g_goto X 191 dX6_says_97 (by decide) ?_
  refine g_sub X [1, 2, 0, 3] (ls' := [(0, .ref (r 0)), (1, .int x1), (2, .int (x2 + 1)), (3, .int x3)]) rfl ?_
  exact bX6_says_191 X K16 _ _ _ _  h

set_option maxHeartbeats 4000000 in
set_option maxRecDepth 100000 in
theorem bX6_says_66 {l : Launch} {D : va_G} {cA : Nat → ClassId} {r : Nat → Nat} {G : gG} {xr : Int32} {v' : gV} {k16 : gV → Int32 → Int32 → Int32 → Option (Int32 × gV)} (X : XM l D cA r RX6 cX6_says 5 (some .int) rmX6_says (some (.int xr)) v' G) (K16 : ∀ (v : gV) (x1 : Int32) (x2 : Int32) (x3 : Int32), k16 v x1 x2 x3 = some (xr, v') → G v [(0, .ref (r 0)), (1, .int x1), (2, .int x2), (3, .int x3)] 16 []) (v : gV) (x1 : Int32) (x2 : Int32) (x3 : Int32) (x4 : Int32) (h : fX6_says_66 k16 v x1 x2 x3 x4 = some (xr, v')) : G v [(0, .ref (r 0)), (1, .int x1), (2, .int x2), (3, .int x3), (4, .int x4)] 66 [] := by
  unfold fX6_says_66 at h
  refine g_aload_n X dX6_says_66 rfl 0 rfl ?_
  refine g_get X fl6_59 hNM_0 (shM_0 _) rfl dX6_says_67 ?_
  refine g_iload_n X dX6_says_70 rfl 2 rfl ?_
  refine g_iload X dX6_says_71 4 rfl ?_
  refine g_bipush X 11 dX6_says_73 (by decide) ?_
  refine g_icmp_ge X 88 dX6_says_75 (by decide) (fun c => ?_) (fun c => ?_)
  · replace h := gTr c h
    refine g_iload X dX6_says_88 4 rfl ?_
    refine g_ldc X kk6_134 dX6_says_90 ?_
    refine g_isub X dX6_says_92 ?_
    refine g_sub X [0, 1, 2, 3] (ls' := [(0, .ref (r 0)), (1, .int x1), (2, .int x2), (3, .int x3)]) rfl ?_
    exact bX6_says_93 X K16 _ _ _ _ _ _  h
  · replace h := gF c h
    refine g_aload_n X dX6_says_78 rfl 0 rfl ?_
    refine g_get X fl6_62 hNM_0 (shM_0 _) rfl dX6_says_79 ?_
    refine g_iload X dX6_says_82 4 rfl ?_
    obtain ⟨c, h⟩ := gGd h
    refine g_iald X hNM_17 (shM_17 _) rfl (gin_in c) dX6_says_84 ?_
    refine g_goto X 93 dX6_says_85 (by decide) ?_
    refine g_sub X [0, 1, 2, 3] (ls' := [(0, .ref (r 0)), (1, .int x1), (2, .int x2), (3, .int x3)]) rfl ?_
    exact bX6_says_93 X K16 _ _ _ _ _ _  h

set_option maxHeartbeats 4000000 in
set_option maxRecDepth 100000 in
theorem bX6_says_130 {l : Launch} {D : va_G} {cA : Nat → ClassId} {r : Nat → Nat} {G : gG} {xr : Int32} {v' : gV} {k16 : gV → Int32 → Int32 → Int32 → Option (Int32 × gV)} (X : XM l D cA r RX6 cX6_says 5 (some .int) rmX6_says (some (.int xr)) v' G) (K16 : ∀ (v : gV) (x1 : Int32) (x2 : Int32) (x3 : Int32), k16 v x1 x2 x3 = some (xr, v') → G v [(0, .ref (r 0)), (1, .int x1), (2, .int x2), (3, .int x3)] 16 []) (v : gV) (x1 : Int32) (x2 : Int32) (x3 : Int32) (s1 : Int32) (s2 : Int32) (h : fX6_says_130 k16 v x1 x2 x3 s1 s2 = some (xr, v')) : G v [(0, .ref (r 0)), (1, .int x1), (2, .int x2), (3, .int x3)] 130 [.int s2, .int s1, .ref (r 16)] := by
  unfold fX6_says_130 at h
  obtain ⟨c, h⟩ := gGd h
  refine g_iast X hNM_16 (shM_16) rfl (gin_in c) dX6_says_130 ?_
  refine g_goto X 191 dX6_says_131 (by decide) ?_
  exact bX6_says_191 X K16 _ _ _ _  h

set_option maxHeartbeats 4000000 in
set_option maxRecDepth 100000 in
theorem bX6_says_16 {l : Launch} {D : va_G} {cA : Nat → ClassId} {r : Nat → Nat} {G : gG} {xr : Int32} {v' : gV} (X : XM l D cA r RX6 cX6_says 5 (some .int) rmX6_says (some (.int xr)) v' G) : ∀ (n : Nat) (v : gV) (x1 : Int32) (x2 : Int32) (x3 : Int32), fX6_says_16 n v x1 x2 x3 = some (xr, v') → G v [(0, .ref (r 0)), (1, .int x1), (2, .int x2), (3, .int x3)] 16 [] := by
  intro n
  induction n with
  | zero => intro v x1 x2 x3 h; rw [fX6_says_16] at h; cases h
  | succ n ih =>
    intro v x1 x2 x3 h
    rw [fX6_says_16] at h
    refine g_iload_n X dX6_says_16 rfl 3 rfl ?_
    refine g_aload_n X dX6_says_17 rfl 0 rfl ?_
    refine g_get X fl6_35 hNM_0 (shM_0 _) rfl dX6_says_18 ?_
    refine g_iconst X 4 dX6_says_21 (by decide) ?_
    refine g_aload_n X dX6_says_22 rfl 0 rfl ?_
    refine g_get X fl6_85 hNM_0 (shM_0 _) rfl dX6_says_23 ?_
    refine g_imul X dX6_says_26 ?_
    refine g_iload_n X dX6_says_27 rfl 1 rfl ?_
    refine g_iadd X dX6_says_28 ?_
    refine g_iconst X 1 dX6_says_29 (by decide) ?_
    refine g_iadd X dX6_says_30 ?_
    obtain ⟨c, h⟩ := gGd h
    refine g_iald X hNM_8 (shM_8 _) rfl (gin_in c) dX6_says_31 ?_
    refine g_icmp_ge X 197 dX6_says_32 (by decide) (fun c => ?_) (fun c => ?_)
    · replace h := gTr c h
      refine g_aload_n X dX6_says_197 rfl 0 rfl ?_
      refine g_get X fl6_59 hNM_0 (shM_0 _) rfl dX6_says_198 ?_
      refine g_iconst X 0 dX6_says_201 (by decide) ?_
      refine g_ialdK X 0 hNM_16 (shM_16 _) rfl vin_0_200 dX6_says_202 ?_
      exact g_iretR X h dX6_says_203
    · replace h := gF c h
      refine g_aload_n X dX6_says_35 rfl 0 rfl ?_
      refine g_get X fl6_32 hNM_0 (shM_0 _) rfl dX6_says_36 ?_
      refine g_sipush X 200 dX6_says_39 (by decide) ?_
      refine g_aload_n X dX6_says_42 rfl 0 rfl ?_
      refine g_get X fl6_85 hNM_0 (shM_0 _) rfl dX6_says_43 ?_
      refine g_imul X dX6_says_46 ?_
      refine g_iload_n X dX6_says_47 rfl 3 rfl ?_
      refine g_iadd X dX6_says_48 ?_
      obtain ⟨c, h⟩ := gGd h
      refine g_iald X hNM_7 (shM_7 _) rfl (gin_in c) dX6_says_49 ?_
      refine g_istore X (ls' := [(4, .int (v 7 ((200 * (v 0 12)) + x3).toNatClampNeg)), (0, .ref (r 0)), (1, .int x1), (2, .int x2), (3, .int x3)]) dX6_says_50 (by decide) rfl ?_
      refine g_iload X dX6_says_52 0 rfl ?_
      refine g_ldc X kk6_134 dX6_says_54 ?_
      refine g_icmp_ge X 66 dX6_says_56 (by decide) (fun c => ?_) (fun c => ?_)
      · replace h := gTr c h
        refine g_sub X [1, 2, 3, 4, 0] (ls' := [(0, .ref (r 0)), (1, .int x1), (2, .int x2), (3, .int x3), (4, .int (v 7 ((200 * (v 0 12)) + x3).toNatClampNeg))]) rfl ?_
        exact bX6_says_66 X ih _ _ _ _ _  h
      · replace h := gF c h
        refine g_iload X dX6_says_59 0 rfl ?_
        refine g_bipush X 11 dX6_says_61 (by decide) ?_
        refine g_icmp_ge X 100 dX6_says_63 (by decide) (fun c => ?_) (fun c => ?_)
        · replace h := gTr c h
          refine g_iload X dX6_says_100 0 rfl ?_
          refine g_bipush X 13 dX6_says_102 (by decide) ?_
          refine g_icmp_ne X 134 dX6_says_104 (by decide) (fun c => ?_) (fun c => ?_)
          · replace h := gF c h
            refine g_iload X dX6_says_134 0 rfl ?_
            refine g_bipush X 19 dX6_says_136 (by decide) ?_
            refine g_icmp_ne X 161 dX6_says_138 (by decide) (fun c => ?_) (fun c => ?_)
            · replace h := gF c h
              refine g_iinc X (x2 + (-1)) [(2, .int (x2 + (-1))), (4, .int (v 7 ((200 * (v 0 12)) + x3).toNatClampNeg)), (0, .ref (r 0)), (1, .int x1), (3, .int x3)] dX6_says_161 3 rfl rfl (by decide) rfl ?_
              refine g_aload_n X dX6_says_164 rfl 2 rfl ?_
              refine g_get X fl6_59 hNM_0 (shM_0 _) rfl dX6_says_165 ?_
              refine g_iload_n X dX6_says_168 rfl 0 rfl ?_
              refine g_iconst X 1 dX6_says_169 (by decide) ?_
              refine g_isub X dX6_says_170 ?_
              refine g_iload X dX6_says_171 1 rfl ?_
              refine g_aload_n X dX6_says_173 rfl 2 rfl ?_
              refine g_get X fl6_59 hNM_0 (shM_0 _) rfl dX6_says_174 ?_
              refine g_iload_n X dX6_says_177 rfl 0 rfl ?_
              refine g_iconst X 1 dX6_says_178 (by decide) ?_
              refine g_isub X dX6_says_179 ?_
              obtain ⟨c, h⟩ := gGd h
              refine g_iald X hNM_16 (shM_16 _) rfl (gin_in c) dX6_says_180 ?_
              refine g_aload_n X dX6_says_181 rfl 2 rfl ?_
              refine g_get X fl6_59 hNM_0 (shM_0 _) rfl dX6_says_182 ?_
              refine g_iload_n X dX6_says_185 rfl 0 rfl ?_
              obtain ⟨c, h⟩ := gGd h
              refine g_iald X hNM_16 (shM_16 _) rfl (gin_in c) dX6_says_186 ?_
              obtain ⟨y1, v2, hc3, h⟩ := gB_inv h
              refine g_callS X (st := [.int ((x2 + (-1)) - 1), .ref (r 16)]) (st' := [.int y1, .int ((x2 + (-1)) - 1), .ref (r 16)]) kcX6_two ktX6_two kl6_148 (⟨rfl, rfl, by decide, by decide⟩) (mX6_two hc3) rfl rfl (Nat.le_of_ble_eq_true rfl) rfl dX6_says_187 ?_
              obtain ⟨c, h⟩ := gGd h
              refine g_iast X hNM_16 (shM_16) rfl (gin_in c) dX6_says_190 ?_
              refine g_sub X [2, 3, 0, 4] (ls' := [(0, .ref (r 0)), (1, .int x1), (2, .int (x2 + (-1))), (3, .int x3)]) rfl ?_
              exact bX6_says_191 X ih _ _ _ _  h
            · replace h := gTr c h
              refine g_aload_n X dX6_says_141 rfl 1 rfl ?_
              refine g_get X fl6_59 hNM_0 (shM_0 _) rfl dX6_says_142 ?_
              refine g_iload_n X dX6_says_145 rfl 3 rfl ?_
              refine g_iconst X 1 dX6_says_146 (by decide) ?_
              refine g_isub X dX6_says_147 ?_
              refine g_aload_n X dX6_says_148 rfl 1 rfl ?_
              refine g_get X fl6_59 hNM_0 (shM_0 _) rfl dX6_says_149 ?_
              refine g_iload_n X dX6_says_152 rfl 3 rfl ?_
              refine g_iconst X 1 dX6_says_153 (by decide) ?_
              refine g_isub X dX6_says_154 ?_
              obtain ⟨c, h⟩ := gGd h
              refine g_iald X hNM_16 (shM_16 _) rfl (gin_in c) dX6_says_155 ?_
              refine g_ineg X dX6_says_156 ?_
              obtain ⟨c, h⟩ := gGd h
              refine g_iast X hNM_16 (shM_16) rfl (gin_in c) dX6_says_157 ?_
              refine g_goto X 191 dX6_says_158 (by decide) ?_
              refine g_sub X [1, 2, 3, 4] (ls' := [(0, .ref (r 0)), (1, .int x1), (2, .int x2), (3, .int x3)]) rfl ?_
              exact bX6_says_191 X ih _ _ _ _  h
          · replace h := gTr c h
            refine g_aload_n X dX6_says_107 rfl 1 rfl ?_
            refine g_get X fl6_59 hNM_0 (shM_0 _) rfl dX6_says_108 ?_
            refine g_iload_n X dX6_says_111 rfl 3 rfl ?_
            refine g_iconst X 1 dX6_says_112 (by decide) ?_
            refine g_isub X dX6_says_113 ?_
            refine g_aload_n X dX6_says_114 rfl 1 rfl ?_
            refine g_get X fl6_59 hNM_0 (shM_0 _) rfl dX6_says_115 ?_
            refine g_iload_n X dX6_says_118 rfl 3 rfl ?_
            refine g_iconst X 1 dX6_says_119 (by decide) ?_
            refine g_isub X dX6_says_120 ?_
            obtain ⟨c, h⟩ := gGd h
            refine g_iald X hNM_16 (shM_16 _) rfl (gin_in c) dX6_says_121 ?_
            refine g_if_ne X 129 dX6_says_122 (by decide) (fun c => ?_) (fun c => ?_)
            · replace h := gF c h
              refine g_iconst X 0 dX6_says_129 (by decide) ?_
              refine g_sub X [1, 2, 3, 4] (ls' := [(0, .ref (r 0)), (1, .int x1), (2, .int x2), (3, .int x3)]) rfl ?_
              exact bX6_says_130 X ih _ _ _ _ _ _  h
            · replace h := gTr c h
              refine g_iconst X 1 dX6_says_125 (by decide) ?_
              refine g_goto X 130 dX6_says_126 (by decide) ?_
              refine g_sub X [1, 2, 3, 4] (ls' := [(0, .ref (r 0)), (1, .int x1), (2, .int x2), (3, .int x3)]) rfl ?_
              exact bX6_says_130 X ih _ _ _ _ _ _  h
        · replace h := gF c h
          refine g_sub X [1, 2, 3, 4, 0] (ls' := [(0, .ref (r 0)), (1, .int x1), (2, .int x2), (3, .int x3), (4, .int (v 7 ((200 * (v 0 12)) + x3).toNatClampNeg))]) rfl ?_
          exact bX6_says_66 X ih _ _ _ _ _  h

set_option maxHeartbeats 4000000 in
set_option maxRecDepth 100000 in
theorem bX6_says_0 {l : Launch} {D : va_G} {cA : Nat → ClassId} {r : Nat → Nat} {G : gG} {xr : Int32} {v' : gV} (X : XM l D cA r RX6 cX6_says 5 (some .int) rmX6_says (some (.int xr)) v' G) (v : gV) (x1 : Int32) (h : fX6_says v x1 = some (xr, v')) : G v [(0, .ref (r 0)), (1, .int x1)] 0 [] := by
  unfold fX6_says at h
  refine g_iconst X 0 dX6_says_0 (by decide) ?_
  refine g_istore_n X (ls' := [(2, .int 0), (0, .ref (r 0)), (1, .int x1)]) dX6_says_1 rfl (by decide) rfl ?_
  refine g_aload_n X dX6_says_2 rfl 1 rfl ?_
  refine g_get X fl6_35 hNM_0 (shM_0 _) rfl dX6_says_3 ?_
  refine g_iconst X 4 dX6_says_6 (by decide) ?_
  refine g_aload_n X dX6_says_7 rfl 1 rfl ?_
  refine g_get X fl6_85 hNM_0 (shM_0 _) rfl dX6_says_8 ?_
  refine g_imul X dX6_says_11 ?_
  refine g_iload_n X dX6_says_12 rfl 2 rfl ?_
  refine g_iadd X dX6_says_13 ?_
  obtain ⟨c, h⟩ := gGd h
  refine g_iald X hNM_8 (shM_8 _) rfl (gin_in c) dX6_says_14 ?_
  refine g_istore_n X (ls' := [(3, .int (v 8 ((4 * (v 0 12)) + x1).toNatClampNeg)), (2, .int 0), (0, .ref (r 0)), (1, .int x1)]) dX6_says_15 rfl (by decide) rfl ?_
  refine g_sub X [2, 3, 1, 0] (ls' := [(0, .ref (r 0)), (1, .int x1), (2, .int 0), (3, .int (v 8 ((4 * (v 0 12)) + x1).toNatClampNeg))]) rfl ?_
  exact bX6_says_16 X  _ _ _ _ _  h

theorem mX6_says {l : Launch} {D : va_G} {cA : Nat → ClassId} {r : Nat → Nat} {v : gV} {x1 : Int32} {xr : Int32} {v' : gV} (h : fX6_says v x1 = some (xr, v')) : Ct l D (tysM cA) (shM cA r) 19 r (ZM r) yX6_says cX6_says 5 (some .int) rmX6_says [.ref (r 0), .int x1] v (some (.int xr)) v' := ct_of plX6 ZM_ok (Nat.le_of_ble_eq_true rfl) rfl (fun _ X => bX6_says_0 X v x1 h)

def rmX6_force : Room := { frames := 1, cells := 0, slots := 0, locals := 22 }

set_option maxHeartbeats 4000000 in
set_option maxRecDepth 100000 in
theorem bX6_force_0 {l : Launch} {D : va_G} {cA : Nat → ClassId} {r : Nat → Nat} {G : gG} {xr : Int32} {v' : gV} (X : XM l D cA r RX6 cX6_force 3 (some .int) rmX6_force (some (.int xr)) v' G) (v : gV) (x1 : Int32) (h : fX6_force v x1 = some (xr, v')) : G v [(0, .ref (r 0)), (1, .int x1)] 0 [] := by
  unfold fX6_force at h
  refine g_iload_n X dX6_force_0 rfl 1 rfl ?_
  refine g_iconst X 0 dX6_force_1 (by decide) ?_
  refine g_aload_n X dX6_force_2 rfl 0 rfl ?_
  refine g_get X fl6_82 hNM_0 (shM_0 _) rfl dX6_force_3 ?_
  refine g_iconst X 1 dX6_force_6 (by decide) ?_
  refine g_isub X dX6_force_7 ?_
  obtain ⟨y1, v2, hc3, h⟩ := gB_inv h
  refine g_callS X (st := []) (st' := [.int y1]) kcX6_in ktX6_in kl6_78 (⟨rfl, rfl, by decide, by decide⟩) (mX6_in hc3) rfl rfl (Nat.le_of_ble_eq_true rfl) rfl dX6_force_8 ?_
  refine g_if_ne X 17 dX6_force_11 (by decide) (fun c => ?_) (fun c => ?_)
  · replace h := gF c h
    refine g_aload_n X dX6_force_17 rfl 0 rfl ?_
    refine g_get X fl6_85 hNM_0 (shM_0 _) rfl dX6_force_18 ?_
    refine g_istore_n X (ls' := [(2, .int (v2 0 12)), (0, .ref (r 0)), (1, .int x1)]) dX6_force_21 rfl (by decide) rfl ?_
    refine g_aload_n X dX6_force_22 rfl 1 rfl ?_
    refine g_iload_n X dX6_force_23 rfl 2 rfl ?_
    refine g_put X (fsM6 r) fp6_85 hNM_0 (shM_0) (fun _ => rfl) (Nat.le_of_ble_eq_true rfl) dX6_force_24 ?_
    refine g_iload_n X dX6_force_27 rfl 0 rfl ?_
    exact g_iretR X h dX6_force_28
  · replace h := gTr c h
    refine g_bipush X (-2) dX6_force_14 (by decide) ?_
    exact g_iretR X h dX6_force_16

theorem mX6_force {l : Launch} {D : va_G} {cA : Nat → ClassId} {r : Nat → Nat} {v : gV} {x1 : Int32} {xr : Int32} {v' : gV} (h : fX6_force v x1 = some (xr, v')) : Ct l D (tysM cA) (shM cA r) 19 r (ZM r) yX6_force cX6_force 3 (some .int) rmX6_force [.ref (r 0), .int x1] v (some (.int xr)) v' := ct_of plX6 ZM_ok (Nat.le_of_ble_eq_true rfl) rfl (fun _ X => bX6_force_0 X v x1 h)

def rmX6_asksOf : Room := { frames := 2, cells := 0, slots := 0, locals := 46 }

set_option maxHeartbeats 4000000 in
set_option maxRecDepth 100000 in
theorem bX6_asksOf_99 {l : Launch} {D : va_G} {cA : Nat → ClassId} {r : Nat → Nat} {G : gG} {xr : Int32} {v' : gV} (X : XM l D cA r RX6 cX6_asksOf 2 (some .int) rmX6_asksOf (some (.int xr)) v' G) (v : gV) (s0 : Int32) (s1 : Int32) (s2 : Int32) (h : fX6_asksOf_99 v s0 s1 s2 = some (xr, v')) : G v [] 99 [.int s2, .int s1, .int s0] := by
  unfold fX6_asksOf_99 at h
  obtain ⟨y4, v5, hc6, h⟩ := gB_inv h
  refine g_callS X (st := []) (st' := [.int y4]) kcX6_within ktX6_within kl6_155 (⟨rfl, rfl, by decide, by decide⟩) (mX6_within hc6) rfl rfl (Nat.le_of_ble_eq_true rfl) rfl dX6_asksOf_99 ?_
  exact g_iretR X h dX6_asksOf_102

set_option maxHeartbeats 4000000 in
set_option maxRecDepth 100000 in
theorem bX6_asksOf_0 {l : Launch} {D : va_G} {cA : Nat → ClassId} {r : Nat → Nat} {G : gG} {xr : Int32} {v' : gV} (X : XM l D cA r RX6 cX6_asksOf 2 (some .int) rmX6_asksOf (some (.int xr)) v' G) (v : gV) (x1 : Int32) (h : fX6_asksOf v x1 = some (xr, v')) : G v [(0, .ref (r 0)), (1, .int x1)] 0 [] := by
  unfold fX6_asksOf at h
  refine g_aload_n X dX6_asksOf_0 rfl 0 rfl ?_
  refine g_get X fl6_62 hNM_0 (shM_0 _) rfl dX6_asksOf_1 ?_
  refine g_iconst X 0 dX6_asksOf_4 (by decide) ?_
  refine g_aload_n X dX6_asksOf_5 rfl 0 rfl ?_
  refine g_get X fl6_7 hNM_0 (shM_0 _) rfl dX6_asksOf_6 ?_
  refine g_bipush X 6 dX6_asksOf_9 (by decide) ?_
  refine g_ialdK X 6 hNM_1 (shM_1 _) rfl vin_6_7 dX6_asksOf_11 ?_
  refine g_iastK X 0 hNM_17 (shM_17) rfl vin_0_6 dX6_asksOf_12 ?_
  refine g_aload_n X dX6_asksOf_13 rfl 0 rfl ?_
  refine g_get X fl6_62 hNM_0 (shM_0 _) rfl dX6_asksOf_14 ?_
  refine g_iconst X 1 dX6_asksOf_17 (by decide) ?_
  refine g_aload_n X dX6_asksOf_18 rfl 0 rfl ?_
  refine g_get X fl6_7 hNM_0 (shM_0 _) rfl dX6_asksOf_19 ?_
  refine g_iconst X 5 dX6_asksOf_22 (by decide) ?_
  refine g_ialdK X 5 hNM_1 (shM_1 _) rfl vin_5_7 dX6_asksOf_23 ?_
  refine g_iastK X 1 hNM_17 (shM_17) rfl vin_1_6 dX6_asksOf_24 ?_
  refine g_aload_n X dX6_asksOf_25 rfl 0 rfl ?_
  refine g_get X fl6_62 hNM_0 (shM_0 _) rfl dX6_asksOf_26 ?_
  refine g_iconst X 2 dX6_asksOf_29 (by decide) ?_
  refine g_aload_n X dX6_asksOf_30 rfl 0 rfl ?_
  refine g_get X fl6_7 hNM_0 (shM_0 _) rfl dX6_asksOf_31 ?_
  refine g_iconst X 0 dX6_asksOf_34 (by decide) ?_
  refine g_ialdK X 0 hNM_1 (shM_1 _) rfl vin_0_7 dX6_asksOf_35 ?_
  refine g_iastK X 2 hNM_17 (shM_17) rfl vin_2_6 dX6_asksOf_36 ?_
  refine g_aload_n X dX6_asksOf_37 rfl 0 rfl ?_
  refine g_get X fl6_62 hNM_0 (shM_0 _) rfl dX6_asksOf_38 ?_
  refine g_iconst X 3 dX6_asksOf_41 (by decide) ?_
  refine g_aload_n X dX6_asksOf_42 rfl 0 rfl ?_
  refine g_get X fl6_7 hNM_0 (shM_0 _) rfl dX6_asksOf_43 ?_
  refine g_iconst X 1 dX6_asksOf_46 (by decide) ?_
  refine g_ialdK X 1 hNM_1 (shM_1 _) rfl vin_1_7 dX6_asksOf_47 ?_
  refine g_iastK X 3 hNM_17 (shM_17) rfl vin_3_6 dX6_asksOf_48 ?_
  refine g_aload_n X dX6_asksOf_49 rfl 0 rfl ?_
  refine g_get X fl6_62 hNM_0 (shM_0 _) rfl dX6_asksOf_50 ?_
  refine g_iconst X 4 dX6_asksOf_53 (by decide) ?_
  refine g_aload_n X dX6_asksOf_54 rfl 0 rfl ?_
  refine g_get X fl6_7 hNM_0 (shM_0 _) rfl dX6_asksOf_55 ?_
  refine g_iconst X 2 dX6_asksOf_58 (by decide) ?_
  refine g_ialdK X 2 hNM_1 (shM_1 _) rfl vin_2_7 dX6_asksOf_59 ?_
  refine g_iastK X 4 hNM_17 (shM_17) rfl vin_4_6 dX6_asksOf_60 ?_
  refine g_aload_n X dX6_asksOf_61 rfl 0 rfl ?_
  refine g_get X fl6_62 hNM_0 (shM_0 _) rfl dX6_asksOf_62 ?_
  refine g_iconst X 5 dX6_asksOf_65 (by decide) ?_
  refine g_aload_n X dX6_asksOf_66 rfl 0 rfl ?_
  refine g_get X fl6_7 hNM_0 (shM_0 _) rfl dX6_asksOf_67 ?_
  refine g_iconst X 3 dX6_asksOf_70 (by decide) ?_
  refine g_ialdK X 3 hNM_1 (shM_1 _) rfl vin_3_7 dX6_asksOf_71 ?_
  refine g_iastK X 5 hNM_17 (shM_17) rfl vin_5_6 dX6_asksOf_72 ?_
  refine g_aload_n X dX6_asksOf_73 rfl 0 rfl ?_
  refine g_iload_n X dX6_asksOf_74 rfl 1 rfl ?_
  obtain ⟨y1, v2, hc3, h⟩ := gB_inv h
  refine g_callV X (st := []) (st' := [.int y1]) kcX6_says kvX6_says kl6_152 (⟨rfl, rfl, by decide, by decide⟩) (mX6_says hc3) hNM_0 (shM_0 _) rfl rfl rfl (Nat.le_of_ble_eq_true rfl) rfl dX6_asksOf_75 ?_
  refine g_iconst X 0 dX6_asksOf_78 (by decide) ?_
  refine g_iload_n X dX6_asksOf_79 rfl 1 rfl ?_
  refine g_if_ne X 87 dX6_asksOf_80 (by decide) (fun c => ?_) (fun c => ?_)
  · replace h := gF c h
    refine g_iload_n X dX6_asksOf_87 rfl 1 rfl ?_
    refine g_iconst X 1 dX6_asksOf_88 (by decide) ?_
    refine g_icmp_ne X 97 dX6_asksOf_89 (by decide) (fun c => ?_) (fun c => ?_)
    · replace h := gF c h
      refine g_bipush X 100 dX6_asksOf_97 (by decide) ?_
      refine g_sub X [] (ls' := []) rfl ?_
      exact bX6_asksOf_99 X  _ _ _ _  h
    · replace h := gTr c h
      refine g_bipush X 99 dX6_asksOf_92 (by decide) ?_
      refine g_goto X 99 dX6_asksOf_94 (by decide) ?_
      refine g_sub X [] (ls' := []) rfl ?_
      exact bX6_asksOf_99 X  _ _ _ _  h
  · replace h := gTr c h
    refine g_iconst X 3 dX6_asksOf_83 (by decide) ?_
    refine g_goto X 99 dX6_asksOf_84 (by decide) ?_
    refine g_sub X [] (ls' := []) rfl ?_
    exact bX6_asksOf_99 X  _ _ _ _  h

theorem mX6_asksOf {l : Launch} {D : va_G} {cA : Nat → ClassId} {r : Nat → Nat} {v : gV} {x1 : Int32} {xr : Int32} {v' : gV} (h : fX6_asksOf v x1 = some (xr, v')) : Ct l D (tysM cA) (shM cA r) 19 r (ZM r) yX6_asksOf cX6_asksOf 2 (some .int) rmX6_asksOf [.ref (r 0), .int x1] v (some (.int xr)) v' := ct_of plX6 ZM_ok (Nat.le_of_ble_eq_true rfl) rfl (fun _ X => bX6_asksOf_0 X v x1 h)

def rmX6_asks : Room := { frames := 3, cells := 0, slots := 0, locals := 67 }

set_option maxHeartbeats 4000000 in
set_option maxRecDepth 100000 in
theorem bX6_asks_0 {l : Launch} {D : va_G} {cA : Nat → ClassId} {r : Nat → Nat} {G : gG} {xr : Int32} {v' : gV} (X : XM l D cA r RX6 cX6_asks 2 (some .int) rmX6_asks (some (.int xr)) v' G) (v : gV) (x1 : Int32) (h : fX6_asks v x1 = some (xr, v')) : G v [(0, .ref (r 0)), (1, .int x1)] 0 [] := by
  unfold fX6_asks at h
  refine g_iload_n X dX6_asks_0 rfl 1 rfl ?_
  refine g_iconst X 0 dX6_asks_1 (by decide) ?_
  refine g_iconst X 2 dX6_asks_2 (by decide) ?_
  obtain ⟨y1, v2, hc3, h⟩ := gB_inv h
  refine g_callS X (st := []) (st' := [.int y1]) kcX6_in ktX6_in kl6_78 (⟨rfl, rfl, by decide, by decide⟩) (mX6_in hc3) rfl rfl (Nat.le_of_ble_eq_true rfl) rfl dX6_asks_3 ?_
  refine g_if_eq X 17 dX6_asks_6 (by decide) (fun c => ?_) (fun c => ?_)
  · replace h := gTr c h
    refine g_bipush X (-2) dX6_asks_17 (by decide) ?_
    exact g_iretR X h dX6_asks_19
  · replace h := gF c h
    refine g_aload_n X dX6_asks_9 rfl 0 rfl ?_
    refine g_iload_n X dX6_asks_10 rfl 1 rfl ?_
    obtain ⟨y4, v5, hc6, h⟩ := gB_inv h
    refine g_callV X (st := []) (st' := [.int y4]) kcX6_asksOf kvX6_asksOf kl6_158 (⟨rfl, rfl, by decide, by decide⟩) (mX6_asksOf hc6) hNM_0 (shM_0 _) rfl rfl rfl (Nat.le_of_ble_eq_true rfl) rfl dX6_asks_11 ?_
    refine g_goto X 19 dX6_asks_14 (by decide) ?_
    exact g_iretR X h dX6_asks_19

theorem mX6_asks {l : Launch} {D : va_G} {cA : Nat → ClassId} {r : Nat → Nat} {v : gV} {x1 : Int32} {xr : Int32} {v' : gV} (h : fX6_asks v x1 = some (xr, v')) : Ct l D (tysM cA) (shM cA r) 19 r (ZM r) yX6_asks cX6_asks 2 (some .int) rmX6_asks [.ref (r 0), .int x1] v (some (.int xr)) v' := ct_of plX6 ZM_ok (Nat.le_of_ble_eq_true rfl) rfl (fun _ X => bX6_asks_0 X v x1 h)

def rmX6_isSo : Room := { frames := 1, cells := 0, slots := 0, locals := 22 }

set_option maxHeartbeats 4000000 in
set_option maxRecDepth 100000 in
theorem bX6_isSo_0 {l : Launch} {D : va_G} {cA : Nat → ClassId} {r : Nat → Nat} {G : gG} {xr : Int32} {v' : gV} (X : XM l D cA r RX6 cX6_isSo 2 (some .boolean) rmX6_isSo (some (.int xr)) v' G) (v : gV) (x0 : Int32) (x1 : Int32) (h : fX6_isSo v x0 x1 = some (xr, v')) : G v [(0, .int x0), (1, .int x1)] 0 [] := by
  unfold fX6_isSo at h
  refine g_iload_n X dX6_isSo_0 rfl 0 rfl ?_
  refine g_iconst X 0 dX6_isSo_1 (by decide) ?_
  refine g_iconst X 5 dX6_isSo_2 (by decide) ?_
  obtain ⟨y1, v2, hc3, h⟩ := gB_inv h
  refine g_callS X (st := []) (st' := [.int y1]) kcX6_in ktX6_in kl6_78 (⟨rfl, rfl, by decide, by decide⟩) (mX6_in hc3) rfl rfl (Nat.le_of_ble_eq_true rfl) rfl dX6_isSo_3 ?_
  refine g_if_eq X 23 dX6_isSo_6 (by decide) (fun c => ?_) (fun c => ?_)
  · replace h := gTr c h
    refine g_iconst X 0 dX6_isSo_23 (by decide) ?_
    exact g_zretR X (Or.inl rfl) h dX6_isSo_24
  · replace h := gF c h
    refine g_iload_n X dX6_isSo_9 rfl 1 rfl ?_
    refine g_iconst X 0 dX6_isSo_10 (by decide) ?_
    refine g_bipush X 9 dX6_isSo_11 (by decide) ?_
    obtain ⟨y4, v5, hc6, h⟩ := gB_inv h
    refine g_callS X (st := []) (st' := [.int y4]) kcX6_in ktX6_in kl6_78 (⟨rfl, rfl, by decide, by decide⟩) (mX6_in hc6) rfl rfl (Nat.le_of_ble_eq_true rfl) rfl dX6_isSo_13 ?_
    refine g_if_eq X 23 dX6_isSo_16 (by decide) (fun c => ?_) (fun c => ?_)
    · replace h := gTr c h
      refine g_iconst X 0 dX6_isSo_23 (by decide) ?_
      exact g_zretR X (Or.inl rfl) h dX6_isSo_24
    · replace h := gF c h
      refine g_iconst X 1 dX6_isSo_19 (by decide) ?_
      refine g_goto X 24 dX6_isSo_20 (by decide) ?_
      exact g_zretR X (Or.inr rfl) h dX6_isSo_24

theorem mX6_isSo {l : Launch} {D : va_G} {cA : Nat → ClassId} {r : Nat → Nat} {v : gV} {x0 : Int32} {x1 : Int32} {xr : Int32} {v' : gV} (h : fX6_isSo v x0 x1 = some (xr, v')) : Ct l D (tysM cA) (shM cA r) 19 r (ZM r) yX6_isSo cX6_isSo 2 (some .boolean) rmX6_isSo [.int x0, .int x1] v (some (.int xr)) v' := ct_of plX6 ZM_ok (Nat.le_of_ble_eq_true rfl) rfl (fun _ X => bX6_isSo_0 X v x0 x1 h)

def rmX6_rate : Room := { frames := 2, cells := 0, slots := 0, locals := 43 }

set_option maxHeartbeats 4000000 in
set_option maxRecDepth 100000 in
theorem bX6_rate_0 {l : Launch} {D : va_G} {cA : Nat → ClassId} {r : Nat → Nat} {G : gG} {xr : Int32} {v' : gV} (X : XM l D cA r RX6 cX6_rate 4 (some .int) rmX6_rate (some (.int xr)) v' G) (v : gV) (x1 : Int32) (x2 : Int32) (x3 : Int32) (h : fX6_rate v x1 x2 x3 = some (xr, v')) : G v [(0, .ref (r 0)), (1, .int x1), (2, .int x2), (3, .int x3)] 0 [] := by
  unfold fX6_rate at h
  refine g_iload_n X dX6_rate_0 rfl 1 rfl ?_
  refine g_iload_n X dX6_rate_1 rfl 3 rfl ?_
  obtain ⟨y1, v2, hc3, h⟩ := gB_inv h
  refine g_callS X (st := []) (st' := [.int y1]) kcX6_isSo ktX6_isSo kl6_161 (⟨rfl, rfl, by decide, by decide⟩) (mX6_isSo hc3) rfl rfl (Nat.le_of_ble_eq_true rfl) rfl dX6_rate_2 ?_
  refine g_if_eq X 26 dX6_rate_5 (by decide) (fun c => ?_) (fun c => ?_)
  · replace h := gTr c h
    refine g_bipush X (-2) dX6_rate_26 (by decide) ?_
    exact g_iretR X h dX6_rate_28
  · replace h := gF c h
    refine g_iload_n X dX6_rate_8 rfl 2 rfl ?_
    refine g_bipush X 11 dX6_rate_9 (by decide) ?_
    refine g_bipush X 39 dX6_rate_11 (by decide) ?_
    obtain ⟨y4, v5, hc6, h⟩ := gB_inv h
    refine g_callS X (st := []) (st' := [.int y4]) kcX6_in ktX6_in kl6_78 (⟨rfl, rfl, by decide, by decide⟩) (mX6_in hc6) rfl rfl (Nat.le_of_ble_eq_true rfl) rfl dX6_rate_13 ?_
    refine g_if_eq X 26 dX6_rate_16 (by decide) (fun c => ?_) (fun c => ?_)
    · replace h := gTr c h
      refine g_bipush X (-2) dX6_rate_26 (by decide) ?_
      exact g_iretR X h dX6_rate_28
    · replace h := gF c h
      refine g_iload_n X dX6_rate_19 rfl 2 rfl ?_
      refine g_bipush X 10 dX6_rate_20 (by decide) ?_
      refine g_irem X dX6_rate_22 (by decide) ?_
      refine g_if_ne X 29 dX6_rate_23 (by decide) (fun c => ?_) (fun c => ?_)
      · replace h := gF c h
        refine g_aload_n X dX6_rate_29 rfl 0 rfl ?_
        refine g_get X fl6_75 hNM_0 (shM_0 _) rfl dX6_rate_30 ?_
        refine g_iconst X 5 dX6_rate_33 (by decide) ?_
        refine g_icmp_ne X 40 dX6_rate_34 (by decide) (fun c => ?_) (fun c => ?_)
        · replace h := gF c h
          refine g_aload_n X dX6_rate_40 rfl 0 rfl ?_
          refine g_get X fl6_13 hNM_0 (shM_0 _) rfl dX6_rate_41 ?_
          refine g_aload_n X dX6_rate_44 rfl 0 rfl ?_
          refine g_get X fl6_75 hNM_0 (shM_0 _) rfl dX6_rate_45 ?_
          refine g_iload_n X dX6_rate_48 rfl 1 rfl ?_
          obtain ⟨c, h⟩ := gGd h
          refine g_iast X hNM_2 (shM_2) rfl (gin_in c) dX6_rate_49 ?_
          refine g_aload_n X dX6_rate_50 rfl 0 rfl ?_
          refine g_get X fl6_16 hNM_0 (shM_0 _) rfl dX6_rate_51 ?_
          refine g_aload_n X dX6_rate_54 rfl 0 rfl ?_
          refine g_get X fl6_75 hNM_0 (shM_0 _) rfl dX6_rate_55 ?_
          refine g_iload_n X dX6_rate_58 rfl 2 rfl ?_
          refine g_bipush X 10 dX6_rate_59 (by decide) ?_
          refine g_idiv X dX6_rate_61 (by decide) ?_
          obtain ⟨c, h⟩ := gGd h
          refine g_iast X hNM_3 (shM_3) rfl (gin_in c) dX6_rate_62 ?_
          refine g_aload_n X dX6_rate_63 rfl 0 rfl ?_
          refine g_get X fl6_19 hNM_0 (shM_0 _) rfl dX6_rate_64 ?_
          refine g_aload_n X dX6_rate_67 rfl 0 rfl ?_
          refine g_get X fl6_75 hNM_0 (shM_0 _) rfl dX6_rate_68 ?_
          refine g_iload_n X dX6_rate_71 rfl 2 rfl ?_
          refine g_bipush X 10 dX6_rate_72 (by decide) ?_
          refine g_irem X dX6_rate_74 (by decide) ?_
          obtain ⟨c, h⟩ := gGd h
          refine g_iast X hNM_4 (shM_4) rfl (gin_in c) dX6_rate_75 ?_
          refine g_aload_n X dX6_rate_76 rfl 0 rfl ?_
          refine g_get X fl6_22 hNM_0 (shM_0 _) rfl dX6_rate_77 ?_
          refine g_aload_n X dX6_rate_80 rfl 0 rfl ?_
          refine g_get X fl6_75 hNM_0 (shM_0 _) rfl dX6_rate_81 ?_
          refine g_iload_n X dX6_rate_84 rfl 3 rfl ?_
          obtain ⟨c, h⟩ := gGd h
          refine g_iast X hNM_5 (shM_5) rfl (gin_in c) dX6_rate_85 ?_
          refine g_aload_n X dX6_rate_86 rfl 0 rfl ?_
          refine g_dup X dX6_rate_87 rfl ?_
          refine g_get X fl6_75 hNM_0 (shM_0 _) rfl dX6_rate_88 ?_
          refine g_iconst X 1 dX6_rate_91 (by decide) ?_
          refine g_iadd X dX6_rate_92 ?_
          refine g_put X (fsM6 r) fp6_75 hNM_0 (shM_0) (fun _ => rfl) (Nat.le_of_ble_eq_true rfl) dX6_rate_93 ?_
          refine g_aload_n X dX6_rate_96 rfl 0 rfl ?_
          refine g_get X fl6_75 hNM_0 (shM_0 _) rfl dX6_rate_97 ?_
          refine g_iconst X 1 dX6_rate_100 (by decide) ?_
          refine g_isub X dX6_rate_101 ?_
          exact g_iretR X h dX6_rate_102
        · replace h := gTr c h
          refine g_bipush X (-4) dX6_rate_37 (by decide) ?_
          exact g_iretR X h dX6_rate_39
      · replace h := gTr c h
        refine g_bipush X (-2) dX6_rate_26 (by decide) ?_
        exact g_iretR X h dX6_rate_28

theorem mX6_rate {l : Launch} {D : va_G} {cA : Nat → ClassId} {r : Nat → Nat} {v : gV} {x1 : Int32} {x2 : Int32} {x3 : Int32} {xr : Int32} {v' : gV} (h : fX6_rate v x1 x2 x3 = some (xr, v')) : Ct l D (tysM cA) (shM cA r) 19 r (ZM r) yX6_rate cX6_rate 4 (some .int) rmX6_rate [.ref (r 0), .int x1, .int x2, .int x3] v (some (.int xr)) v' := ct_of plX6 ZM_ok (Nat.le_of_ble_eq_true rfl) rfl (fun _ X => bX6_rate_0 X v x1 x2 x3 h)

def rmX6_change : Room := { frames := 2, cells := 0, slots := 0, locals := 43 }

set_option maxHeartbeats 4000000 in
set_option maxRecDepth 100000 in
theorem bX6_change_0 {l : Launch} {D : va_G} {cA : Nat → ClassId} {r : Nat → Nat} {G : gG} {xr : Int32} {v' : gV} (X : XM l D cA r RX6 cX6_change 5 (some .int) rmX6_change (some (.int xr)) v' G) (v : gV) (x1 : Int32) (x2 : Int32) (x3 : Int32) (h : fX6_change v x1 x2 x3 = some (xr, v')) : G v [(0, .ref (r 0)), (1, .int x1), (2, .int x2), (3, .int x3)] 0 [] := by
  unfold fX6_change at h
  refine g_aload_n X dX6_change_0 rfl 0 rfl ?_
  refine g_iload_n X dX6_change_1 rfl 1 rfl ?_
  obtain ⟨y1, v2, hc3, h⟩ := gB_inv h
  refine g_callV X (st := []) (st' := [.int y1]) kcX6_isRate kvX6_isRate kl6_165 (⟨rfl, rfl, by decide, by decide⟩) (mX6_isRate hc3) hNM_0 (shM_0 _) rfl rfl rfl (Nat.le_of_ble_eq_true rfl) rfl dX6_change_2 ?_
  refine g_if_ne X 11 dX6_change_5 (by decide) (fun c => ?_) (fun c => ?_)
  · replace h := gF c h
    refine g_iload_n X dX6_change_11 rfl 2 rfl ?_
    refine g_iload_n X dX6_change_12 rfl 3 rfl ?_
    obtain ⟨y4, v5, hc6, h⟩ := gB_inv h
    refine g_callS X (st := []) (st' := [.int y4]) kcX6_isSo ktX6_isSo kl6_161 (⟨rfl, rfl, by decide, by decide⟩) (mX6_isSo hc6) rfl rfl (Nat.le_of_ble_eq_true rfl) rfl dX6_change_13 ?_
    refine g_if_ne X 22 dX6_change_16 (by decide) (fun c => ?_) (fun c => ?_)
    · replace h := gF c h
      refine g_aload_n X dX6_change_22 rfl 0 rfl ?_
      refine g_get X fl6_13 hNM_0 (shM_0 _) rfl dX6_change_23 ?_
      refine g_iload_n X dX6_change_26 rfl 1 rfl ?_
      obtain ⟨c, h⟩ := gGd h
      refine g_iald X hNM_2 (shM_2 _) rfl (gin_in c) dX6_change_27 ?_
      refine g_istore X (ls' := [(4, .int (v5 2 x1.toNatClampNeg)), (0, .ref (r 0)), (1, .int x1), (2, .int x2), (3, .int x3)]) dX6_change_28 (by decide) rfl ?_
      refine g_aload_n X dX6_change_30 rfl 1 rfl ?_
      refine g_get X fl6_13 hNM_0 (shM_0 _) rfl dX6_change_31 ?_
      refine g_iload_n X dX6_change_34 rfl 2 rfl ?_
      refine g_iload_n X dX6_change_35 rfl 3 rfl ?_
      obtain ⟨c, h⟩ := gGd h
      refine g_iast X hNM_2 (shM_2) rfl (gin_in c) dX6_change_36 ?_
      refine g_aload_n X dX6_change_37 rfl 1 rfl ?_
      refine g_get X fl6_22 hNM_0 (shM_0 _) rfl dX6_change_38 ?_
      refine g_iload_n X dX6_change_41 rfl 2 rfl ?_
      refine g_iload_n X dX6_change_42 rfl 4 rfl ?_
      obtain ⟨c, h⟩ := gGd h
      refine g_iast X hNM_5 (shM_5) rfl (gin_in c) dX6_change_43 ?_
      refine g_iload X dX6_change_44 0 rfl ?_
      exact g_iretR X h dX6_change_46
    · replace h := gTr c h
      refine g_bipush X (-7) dX6_change_19 (by decide) ?_
      exact g_iretR X h dX6_change_21
  · replace h := gTr c h
    refine g_bipush X (-5) dX6_change_8 (by decide) ?_
    exact g_iretR X h dX6_change_10

theorem mX6_change {l : Launch} {D : va_G} {cA : Nat → ClassId} {r : Nat → Nat} {v : gV} {x1 : Int32} {x2 : Int32} {x3 : Int32} {xr : Int32} {v' : gV} (h : fX6_change v x1 x2 x3 = some (xr, v')) : Ct l D (tysM cA) (shM cA r) 19 r (ZM r) yX6_change cX6_change 5 (some .int) rmX6_change [.ref (r 0), .int x1, .int x2, .int x3] v (some (.int xr)) v' := ct_of plX6 ZM_ok (Nat.le_of_ble_eq_true rfl) rfl (fun _ X => bX6_change_0 X v x1 x2 x3 h)

def rmX6_takes : Room := { frames := 1, cells := 0, slots := 0, locals := 22 }

set_option maxHeartbeats 4000000 in
set_option maxRecDepth 100000 in
theorem bX6_takes_25 {l : Launch} {D : va_G} {cA : Nat → ClassId} {r : Nat → Nat} {G : gG} {xr : Int32} {v' : gV} (X : XM l D cA r RX6 cX6_takes 4 (some .int) rmX6_takes (some (.int xr)) v' G) (v : gV) (x1 : Int32) (x3 : Int32) (h : fX6_takes_25 v x1 x3 = some (xr, v')) : G v [(0, .ref (r 0)), (1, .int x1), (3, .int x3)] 25 [] := by
  unfold fX6_takes_25 at h
  refine g_iload_n X dX6_takes_25 rfl 2 rfl ?_
  refine g_iconst X 2 dX6_takes_26 (by decide) ?_
  refine g_irem X dX6_takes_27 (by decide) ?_
  refine g_iconst X 1 dX6_takes_28 (by decide) ?_
  refine g_icmp_ne X 48 dX6_takes_29 (by decide) (fun c => ?_) (fun c => ?_)
  · replace h := gF c h
    refine g_aload_n X dX6_takes_48 rfl 0 rfl ?_
    refine g_get X fl6_19 hNM_0 (shM_0 _) rfl dX6_takes_49 ?_
    refine g_iload_n X dX6_takes_52 rfl 1 rfl ?_
    obtain ⟨c, h⟩ := gGd h
    refine g_iald X hNM_4 (shM_4 _) rfl (gin_in c) dX6_takes_53 ?_
    exact g_iretR X h dX6_takes_54
  · replace h := gTr c h
    refine g_aload_n X dX6_takes_32 rfl 0 rfl ?_
    refine g_get X fl6_19 hNM_0 (shM_0 _) rfl dX6_takes_33 ?_
    refine g_iload_n X dX6_takes_36 rfl 1 rfl ?_
    obtain ⟨c, h⟩ := gGd h
    refine g_iald X hNM_4 (shM_4 _) rfl (gin_in c) dX6_takes_37 ?_
    refine g_aload_n X dX6_takes_38 rfl 0 rfl ?_
    refine g_get X fl6_22 hNM_0 (shM_0 _) rfl dX6_takes_39 ?_
    refine g_iload_n X dX6_takes_42 rfl 1 rfl ?_
    obtain ⟨c, h⟩ := gGd h
    refine g_iald X hNM_5 (shM_5 _) rfl (gin_in c) dX6_takes_43 ?_
    refine g_iadd X dX6_takes_44 ?_
    refine g_goto X 54 dX6_takes_45 (by decide) ?_
    exact g_iretR X h dX6_takes_54

set_option maxHeartbeats 4000000 in
set_option maxRecDepth 100000 in
theorem bX6_takes_87 {l : Launch} {D : va_G} {cA : Nat → ClassId} {r : Nat → Nat} {G : gG} {xr : Int32} {v' : gV} (X : XM l D cA r RX6 cX6_takes 4 (some .int) rmX6_takes (some (.int xr)) v' G) (v : gV) (x1 : Int32) (h : fX6_takes_87 v x1 = some (xr, v')) : G v [(0, .ref (r 0)), (1, .int x1)] 87 [] := by
  unfold fX6_takes_87 at h
  refine g_aload_n X dX6_takes_87 rfl 0 rfl ?_
  refine g_get X fl6_19 hNM_0 (shM_0 _) rfl dX6_takes_88 ?_
  refine g_iload_n X dX6_takes_91 rfl 1 rfl ?_
  obtain ⟨c, h⟩ := gGd h
  refine g_iald X hNM_4 (shM_4 _) rfl (gin_in c) dX6_takes_92 ?_
  exact g_iretR X h dX6_takes_93

set_option maxHeartbeats 4000000 in
set_option maxRecDepth 100000 in
theorem bX6_takes_0 {l : Launch} {D : va_G} {cA : Nat → ClassId} {r : Nat → Nat} {G : gG} {xr : Int32} {v' : gV} (X : XM l D cA r RX6 cX6_takes 4 (some .int) rmX6_takes (some (.int xr)) v' G) (v : gV) (x1 : Int32) (h : fX6_takes v x1 = some (xr, v')) : G v [(0, .ref (r 0)), (1, .int x1)] 0 [] := by
  unfold fX6_takes at h
  refine g_aload_n X dX6_takes_0 rfl 0 rfl ?_
  refine g_get X fl6_13 hNM_0 (shM_0 _) rfl dX6_takes_1 ?_
  refine g_iload_n X dX6_takes_4 rfl 1 rfl ?_
  obtain ⟨c, h⟩ := gGd h
  refine g_iald X hNM_2 (shM_2 _) rfl (gin_in c) dX6_takes_5 ?_
  refine g_istore_n X (ls' := [(2, .int (v 2 x1.toNatClampNeg)), (0, .ref (r 0)), (1, .int x1)]) dX6_takes_6 rfl (by decide) rfl ?_
  refine g_aload_n X dX6_takes_7 rfl 1 rfl ?_
  refine g_get X fl6_7 hNM_0 (shM_0 _) rfl dX6_takes_8 ?_
  refine g_bipush X 6 dX6_takes_11 (by decide) ?_
  refine g_ialdK X 6 hNM_1 (shM_1 _) rfl vin_6_7 dX6_takes_13 ?_
  refine g_istore_n X (ls' := [(3, .int (v 1 6)), (2, .int (v 2 x1.toNatClampNeg)), (0, .ref (r 0)), (1, .int x1)]) dX6_takes_14 rfl (by decide) rfl ?_
  refine g_iload_n X dX6_takes_15 rfl 1 rfl ?_
  refine g_iconst X 2 dX6_takes_16 (by decide) ?_
  refine g_icmp_eq X 25 dX6_takes_17 (by decide) (fun c => ?_) (fun c => ?_)
  · replace h := gTr c h
    refine g_sub X [2, 3, 0] (ls' := [(0, .ref (r 0)), (1, .int x1), (3, .int (v 1 6))]) rfl ?_
    exact bX6_takes_25 X  _ _ _  h
  · replace h := gF c h
    refine g_iload_n X dX6_takes_20 rfl 1 rfl ?_
    refine g_iconst X 4 dX6_takes_21 (by decide) ?_
    refine g_icmp_ne X 55 dX6_takes_22 (by decide) (fun c => ?_) (fun c => ?_)
    · replace h := gF c h
      refine g_iload_n X dX6_takes_55 rfl 1 rfl ?_
      refine g_iconst X 5 dX6_takes_56 (by decide) ?_
      refine g_icmp_ne X 87 dX6_takes_57 (by decide) (fun c => ?_) (fun c => ?_)
      · replace h := gF c h
        refine g_sub X [2, 3] (ls' := [(0, .ref (r 0)), (1, .int x1)]) rfl ?_
        exact bX6_takes_87 X  _ _  h
      · replace h := gTr c h
        refine g_iload_n X dX6_takes_60 rfl 0 rfl ?_
        refine g_aload_n X dX6_takes_61 rfl 2 rfl ?_
        refine g_get X fl6_22 hNM_0 (shM_0 _) rfl dX6_takes_62 ?_
        refine g_iload_n X dX6_takes_65 rfl 3 rfl ?_
        obtain ⟨c, h⟩ := gGd h
        refine g_iald X hNM_5 (shM_5 _) rfl (gin_in c) dX6_takes_66 ?_
        refine g_icmp_lt X 87 dX6_takes_67 (by decide) (fun c => ?_) (fun c => ?_)
        · replace h := gTr c h
          refine g_sub X [2, 3] (ls' := [(0, .ref (r 0)), (1, .int x1)]) rfl ?_
          exact bX6_takes_87 X  _ _  h
        · replace h := gF c h
          refine g_aload_n X dX6_takes_70 rfl 2 rfl ?_
          refine g_get X fl6_19 hNM_0 (shM_0 _) rfl dX6_takes_71 ?_
          refine g_iload_n X dX6_takes_74 rfl 3 rfl ?_
          obtain ⟨c, h⟩ := gGd h
          refine g_iald X hNM_4 (shM_4 _) rfl (gin_in c) dX6_takes_75 ?_
          refine g_iconst X 1 dX6_takes_76 (by decide) ?_
          refine g_isub X dX6_takes_77 ?_
          refine g_iconst X 1 dX6_takes_78 (by decide) ?_
          refine g_bipush X 9 dX6_takes_79 (by decide) ?_
          obtain ⟨y1, v2, hc3, h⟩ := gB_inv h
          refine g_callS X (st := []) (st' := [.int y1]) kcX6_within ktX6_within kl6_155 (⟨rfl, rfl, by decide, by decide⟩) (mX6_within hc3) rfl rfl (Nat.le_of_ble_eq_true rfl) rfl dX6_takes_81 ?_
          refine g_goto X 93 dX6_takes_84 (by decide) ?_
          exact g_iretR X h dX6_takes_93
    · replace h := gTr c h
      refine g_sub X [2, 3, 0] (ls' := [(0, .ref (r 0)), (1, .int x1), (3, .int (v 1 6))]) rfl ?_
      exact bX6_takes_25 X  _ _ _  h

theorem mX6_takes {l : Launch} {D : va_G} {cA : Nat → ClassId} {r : Nat → Nat} {v : gV} {x1 : Int32} {xr : Int32} {v' : gV} (h : fX6_takes v x1 = some (xr, v')) : Ct l D (tysM cA) (shM cA r) 19 r (ZM r) yX6_takes cX6_takes 4 (some .int) rmX6_takes [.ref (r 0), .int x1] v (some (.int xr)) v' := ct_of plX6 ZM_ok (Nat.le_of_ble_eq_true rfl) rfl (fun _ X => bX6_takes_0 X v x1 h)

def rmX6_gives : Room := { frames := 2, cells := 0, slots := 0, locals := 45 }

set_option maxHeartbeats 4000000 in
set_option maxRecDepth 100000 in
theorem bX6_gives_0 {l : Launch} {D : va_G} {cA : Nat → ClassId} {r : Nat → Nat} {G : gG} {xr : Int32} {v' : gV} (X : XM l D cA r RX6 cX6_gives 3 (some .int) rmX6_gives (some (.int xr)) v' G) (v : gV) (x1 : Int32) (h : fX6_gives v x1 = some (xr, v')) : G v [(0, .ref (r 0)), (1, .int x1)] 0 [] := by
  unfold fX6_gives at h
  refine g_aload_n X dX6_gives_0 rfl 0 rfl ?_
  refine g_get X fl6_13 hNM_0 (shM_0 _) rfl dX6_gives_1 ?_
  refine g_iload_n X dX6_gives_4 rfl 1 rfl ?_
  obtain ⟨c, h⟩ := gGd h
  refine g_iald X hNM_2 (shM_2 _) rfl (gin_in c) dX6_gives_5 ?_
  refine g_istore_n X (ls' := [(2, .int (v 2 x1.toNatClampNeg)), (0, .ref (r 0)), (1, .int x1)]) dX6_gives_6 rfl (by decide) rfl ?_
  refine g_iload_n X dX6_gives_7 rfl 0 rfl ?_
  refine g_iconst X 3 dX6_gives_8 (by decide) ?_
  refine g_icmp_ne X 29 dX6_gives_9 (by decide) (fun c => ?_) (fun c => ?_)
  · replace h := gF c h
    refine g_iload_n X dX6_gives_29 rfl 0 rfl ?_
    refine g_iconst X 4 dX6_gives_30 (by decide) ?_
    refine g_icmp_ne X 64 dX6_gives_31 (by decide) (fun c => ?_) (fun c => ?_)
    · replace h := gF c h
      refine g_iconst X 1 dX6_gives_64 (by decide) ?_
      exact g_iretR X h dX6_gives_65
    · replace h := gTr c h
      refine g_aload_n X dX6_gives_34 rfl 1 rfl ?_
      refine g_get X fl6_7 hNM_0 (shM_0 _) rfl dX6_gives_35 ?_
      refine g_bipush X 6 dX6_gives_38 (by decide) ?_
      refine g_ialdK X 6 hNM_1 (shM_1 _) rfl vin_6_7 dX6_gives_40 ?_
      refine g_bipush X 7 dX6_gives_41 (by decide) ?_
      refine g_irem X dX6_gives_43 (by decide) ?_
      refine g_aload_n X dX6_gives_44 rfl 1 rfl ?_
      refine g_get X fl6_22 hNM_0 (shM_0 _) rfl dX6_gives_45 ?_
      refine g_iload_n X dX6_gives_48 rfl 2 rfl ?_
      obtain ⟨c, h⟩ := gGd h
      refine g_iald X hNM_5 (shM_5 _) rfl (gin_in c) dX6_gives_49 ?_
      refine g_bipush X 7 dX6_gives_50 (by decide) ?_
      refine g_irem X dX6_gives_52 (by decide) ?_
      refine g_icmp_ne X 60 dX6_gives_53 (by decide) (fun c => ?_) (fun c => ?_)
      · replace h := gF c h
        refine g_iconst X 0 dX6_gives_60 (by decide) ?_
        refine g_goto X 65 dX6_gives_61 (by decide) ?_
        exact g_iretR X h dX6_gives_65
      · replace h := gTr c h
        refine g_iconst X 2 dX6_gives_56 (by decide) ?_
        refine g_goto X 65 dX6_gives_57 (by decide) ?_
        exact g_iretR X h dX6_gives_65
  · replace h := gTr c h
    refine g_aload_n X dX6_gives_12 rfl 1 rfl ?_
    refine g_iload_n X dX6_gives_13 rfl 2 rfl ?_
    obtain ⟨y1, v2, hc3, h⟩ := gB_inv h
    refine g_callV X (st := []) (st' := [.int y1]) kcX6_takes kvX6_takes kl6_168 (⟨rfl, rfl, by decide, by decide⟩) (mX6_takes hc3) hNM_0 (shM_0 _) rfl rfl rfl (Nat.le_of_ble_eq_true rfl) rfl dX6_gives_14 ?_
    refine g_iconst X 5 dX6_gives_17 (by decide) ?_
    refine g_icmp_le X 25 dX6_gives_18 (by decide) (fun c => ?_) (fun c => ?_)
    · replace h := gTr c h
      refine g_iconst X 1 dX6_gives_25 (by decide) ?_
      refine g_goto X 65 dX6_gives_26 (by decide) ?_
      exact g_iretR X h dX6_gives_65
    · replace h := gF c h
      refine g_iconst X 2 dX6_gives_21 (by decide) ?_
      refine g_goto X 65 dX6_gives_22 (by decide) ?_
      exact g_iretR X h dX6_gives_65

theorem mX6_gives {l : Launch} {D : va_G} {cA : Nat → ClassId} {r : Nat → Nat} {v : gV} {x1 : Int32} {xr : Int32} {v' : gV} (h : fX6_gives v x1 = some (xr, v')) : Ct l D (tysM cA) (shM cA r) 19 r (ZM r) yX6_gives cX6_gives 3 (some .int) rmX6_gives [.ref (r 0), .int x1] v (some (.int xr)) v' := ct_of plX6 ZM_ok (Nat.le_of_ble_eq_true rfl) rfl (fun _ X => bX6_gives_0 X v x1 h)

def rmX6_lends : Room := { frames := 0, cells := 0, slots := 0, locals := 0 }

set_option maxHeartbeats 4000000 in
set_option maxRecDepth 100000 in
theorem bX6_lends_0 {l : Launch} {D : va_G} {cA : Nat → ClassId} {r : Nat → Nat} {G : gG} {xr : Int32} {v' : gV} (X : XM l D cA r RX6 cX6_lends 2 (some .int) rmX6_lends (some (.int xr)) v' G) (v : gV) (x1 : Int32) (h : fX6_lends v x1 = some (xr, v')) : G v [(0, .ref (r 0)), (1, .int x1)] 0 [] := by
  unfold fX6_lends at h
  refine g_aload_n X dX6_lends_0 rfl 0 rfl ?_
  refine g_get X fl6_13 hNM_0 (shM_0 _) rfl dX6_lends_1 ?_
  refine g_iload_n X dX6_lends_4 rfl 1 rfl ?_
  obtain ⟨c, h⟩ := gGd h
  refine g_iald X hNM_2 (shM_2 _) rfl (gin_in c) dX6_lends_5 ?_
  refine g_iconst X 1 dX6_lends_6 (by decide) ?_
  refine g_icmp_ne X 14 dX6_lends_7 (by decide) (fun c => ?_) (fun c => ?_)
  · replace h := gF c h
    refine g_aload_n X dX6_lends_14 rfl 0 rfl ?_
    refine g_get X fl6_13 hNM_0 (shM_0 _) rfl dX6_lends_15 ?_
    refine g_iload_n X dX6_lends_18 rfl 1 rfl ?_
    obtain ⟨c, h⟩ := gGd h
    refine g_iald X hNM_2 (shM_2 _) rfl (gin_in c) dX6_lends_19 ?_
    refine g_iconst X 3 dX6_lends_20 (by decide) ?_
    refine g_icmp_ne X 35 dX6_lends_21 (by decide) (fun c => ?_) (fun c => ?_)
    · replace h := gF c h
      refine g_iconst X 0 dX6_lends_35 (by decide) ?_
      exact g_iretR X h dX6_lends_36
    · replace h := gTr c h
      refine g_iconst X 1 dX6_lends_24 (by decide) ?_
      refine g_aload_n X dX6_lends_25 rfl 0 rfl ?_
      refine g_get X fl6_22 hNM_0 (shM_0 _) rfl dX6_lends_26 ?_
      refine g_iload_n X dX6_lends_29 rfl 1 rfl ?_
      obtain ⟨c, h⟩ := gGd h
      refine g_iald X hNM_5 (shM_5 _) rfl (gin_in c) dX6_lends_30 ?_
      refine g_iadd X dX6_lends_31 ?_
      refine g_goto X 36 dX6_lends_32 (by decide) ?_
      exact g_iretR X h dX6_lends_36
  · replace h := gTr c h
    refine g_iconst X 1 dX6_lends_10 (by decide) ?_
    refine g_goto X 36 dX6_lends_11 (by decide) ?_
    exact g_iretR X h dX6_lends_36

theorem mX6_lends {l : Launch} {D : va_G} {cA : Nat → ClassId} {r : Nat → Nat} {v : gV} {x1 : Int32} {xr : Int32} {v' : gV} (h : fX6_lends v x1 = some (xr, v')) : Ct l D (tysM cA) (shM cA r) 19 r (ZM r) yX6_lends cX6_lends 2 (some .int) rmX6_lends [.ref (r 0), .int x1] v (some (.int xr)) v' := ct_of plX6 ZM_ok (Nat.le_of_ble_eq_true rfl) rfl (fun _ X => bX6_lends_0 X v x1 h)

def rmX6_told : Room := { frames := 3, cells := 0, slots := 0, locals := 67 }

set_option maxHeartbeats 4000000 in
set_option maxRecDepth 100000 in
theorem bX6_told_0 {l : Launch} {D : va_G} {cA : Nat → ClassId} {r : Nat → Nat} {G : gG} {xr : Int32} {v' : gV} (X : XM l D cA r RX6 cX6_told 3 (some .int) rmX6_told (some (.int xr)) v' G) (v : gV) (x1 : Int32) (x2 : Int32) (h : fX6_told v x1 x2 = some (xr, v')) : G v [(0, .ref (r 0)), (1, .int x1), (2, .int x2)] 0 [] := by
  unfold fX6_told at h
  refine g_aload_n X dX6_told_0 rfl 0 rfl ?_
  refine g_iload_n X dX6_told_1 rfl 1 rfl ?_
  obtain ⟨y1, v2, hc3, h⟩ := gB_inv h
  refine g_callV X (st := []) (st' := [.int y1]) kcX6_isRate kvX6_isRate kl6_165 (⟨rfl, rfl, by decide, by decide⟩) (mX6_isRate hc3) hNM_0 (shM_0 _) rfl rfl rfl (Nat.le_of_ble_eq_true rfl) rfl dX6_told_2 ?_
  refine g_if_ne X 11 dX6_told_5 (by decide) (fun c => ?_) (fun c => ?_)
  · replace h := gF c h
    refine g_iload_n X dX6_told_11 rfl 2 rfl ?_
    by_cases c : x2 = 0
    · replace h := gTr c h
      refine g_tableIn X 56 dX6_told_12 (by rw [c]; decide) (by rw [c]; decide) (by rw [c]; rfl) (by decide) ?_
      refine g_aload_n X dX6_told_56 rfl 0 rfl ?_
      refine g_get X fl6_13 hNM_0 (shM_0 _) rfl dX6_told_57 ?_
      refine g_iload_n X dX6_told_60 rfl 1 rfl ?_
      obtain ⟨c, h⟩ := gGd h
      refine g_iald X hNM_2 (shM_2 _) rfl (gin_in c) dX6_told_61 ?_
      exact g_iretR X h dX6_told_62
    · replace h := gF c h
      have n0 : (x2).toInt ≠ 0 := fun q => c (Int32.toInt_inj.mp (q.trans (by decide)))
      clear c
      by_cases c : x2 = 1
      · replace h := gTr c h
        refine g_tableIn X 63 dX6_told_12 (by rw [c]; decide) (by rw [c]; decide) (by rw [c]; rfl) (by decide) ?_
        refine g_aload_n X dX6_told_63 rfl 0 rfl ?_
        refine g_get X fl6_16 hNM_0 (shM_0 _) rfl dX6_told_64 ?_
        refine g_iload_n X dX6_told_67 rfl 1 rfl ?_
        obtain ⟨c, h⟩ := gGd h
        refine g_iald X hNM_3 (shM_3 _) rfl (gin_in c) dX6_told_68 ?_
        exact g_iretR X h dX6_told_69
      · replace h := gF c h
        have n1 : (x2).toInt ≠ 1 := fun q => c (Int32.toInt_inj.mp (q.trans (by decide)))
        clear c
        by_cases c : x2 = 2
        · replace h := gTr c h
          refine g_tableIn X 70 dX6_told_12 (by rw [c]; decide) (by rw [c]; decide) (by rw [c]; rfl) (by decide) ?_
          refine g_aload_n X dX6_told_70 rfl 0 rfl ?_
          refine g_get X fl6_19 hNM_0 (shM_0 _) rfl dX6_told_71 ?_
          refine g_iload_n X dX6_told_74 rfl 1 rfl ?_
          obtain ⟨c, h⟩ := gGd h
          refine g_iald X hNM_4 (shM_4 _) rfl (gin_in c) dX6_told_75 ?_
          exact g_iretR X h dX6_told_76
        · replace h := gF c h
          have n2 : (x2).toInt ≠ 2 := fun q => c (Int32.toInt_inj.mp (q.trans (by decide)))
          clear c
          by_cases c : x2 = 3
          · replace h := gTr c h
            refine g_tableIn X 77 dX6_told_12 (by rw [c]; decide) (by rw [c]; decide) (by rw [c]; rfl) (by decide) ?_
            refine g_aload_n X dX6_told_77 rfl 0 rfl ?_
            refine g_get X fl6_22 hNM_0 (shM_0 _) rfl dX6_told_78 ?_
            refine g_iload_n X dX6_told_81 rfl 1 rfl ?_
            obtain ⟨c, h⟩ := gGd h
            refine g_iald X hNM_5 (shM_5 _) rfl (gin_in c) dX6_told_82 ?_
            exact g_iretR X h dX6_told_83
          · replace h := gF c h
            have n3 : (x2).toInt ≠ 3 := fun q => c (Int32.toInt_inj.mp (q.trans (by decide)))
            clear c
            by_cases c : x2 = 4
            · replace h := gTr c h
              refine g_tableIn X 84 dX6_told_12 (by rw [c]; decide) (by rw [c]; decide) (by rw [c]; rfl) (by decide) ?_
              refine g_aload_n X dX6_told_84 rfl 0 rfl ?_
              refine g_iload_n X dX6_told_85 rfl 1 rfl ?_
              obtain ⟨y4, v5, hc6, h⟩ := gB_inv h
              refine g_callV X (st := []) (st' := [.int y4]) kcX6_takes kvX6_takes kl6_168 (⟨rfl, rfl, by decide, by decide⟩) (mX6_takes hc6) hNM_0 (shM_0 _) rfl rfl rfl (Nat.le_of_ble_eq_true rfl) rfl dX6_told_86 ?_
              exact g_iretR X h dX6_told_89
            · replace h := gF c h
              have n4 : (x2).toInt ≠ 4 := fun q => c (Int32.toInt_inj.mp (q.trans (by decide)))
              clear c
              by_cases c : x2 = 5
              · replace h := gTr c h
                refine g_tableIn X 90 dX6_told_12 (by rw [c]; decide) (by rw [c]; decide) (by rw [c]; rfl) (by decide) ?_
                refine g_aload_n X dX6_told_90 rfl 0 rfl ?_
                refine g_iload_n X dX6_told_91 rfl 1 rfl ?_
                obtain ⟨y7, v8, hc9, h⟩ := gB_inv h
                refine g_callV X (st := []) (st' := [.int y7]) kcX6_gives kvX6_gives kl6_171 (⟨rfl, rfl, by decide, by decide⟩) (mX6_gives hc9) hNM_0 (shM_0 _) rfl rfl rfl (Nat.le_of_ble_eq_true rfl) rfl dX6_told_92 ?_
                exact g_iretR X h dX6_told_95
              · replace h := gF c h
                have n5 : (x2).toInt ≠ 5 := fun q => c (Int32.toInt_inj.mp (q.trans (by decide)))
                clear c
                by_cases c : x2 = 6
                · replace h := gTr c h
                  refine g_tableIn X 96 dX6_told_12 (by rw [c]; decide) (by rw [c]; decide) (by rw [c]; rfl) (by decide) ?_
                  refine g_aload_n X dX6_told_96 rfl 0 rfl ?_
                  refine g_iload_n X dX6_told_97 rfl 1 rfl ?_
                  obtain ⟨y10, v11, hc12, h⟩ := gB_inv h
                  refine g_callV X (st := []) (st' := [.int y10]) kcX6_lends kvX6_lends kl6_174 (⟨rfl, rfl, by decide, by decide⟩) (mX6_lends hc12) hNM_0 (shM_0 _) rfl rfl rfl (Nat.le_of_ble_eq_true rfl) rfl dX6_told_98 ?_
                  exact g_iretR X h dX6_told_101
                · replace h := gF c h
                  have n6 : (x2).toInt ≠ 6 := fun q => c (Int32.toInt_inj.mp (q.trans (by decide)))
                  clear c
                  refine g_tableOut X 102 dX6_told_12 (by omega) (by decide) ?_
                  refine g_bipush X (-7) dX6_told_102 (by decide) ?_
                  exact g_iretR X h dX6_told_104
  · replace h := gTr c h
    refine g_bipush X (-5) dX6_told_8 (by decide) ?_
    exact g_iretR X h dX6_told_10

theorem mX6_told {l : Launch} {D : va_G} {cA : Nat → ClassId} {r : Nat → Nat} {v : gV} {x1 : Int32} {x2 : Int32} {xr : Int32} {v' : gV} (h : fX6_told v x1 x2 = some (xr, v')) : Ct l D (tysM cA) (shM cA r) 19 r (ZM r) yX6_told cX6_told 3 (some .int) rmX6_told [.ref (r 0), .int x1, .int x2] v (some (.int xr)) v' := ct_of plX6 ZM_ok (Nat.le_of_ble_eq_true rfl) rfl (fun _ X => bX6_told_0 X v x1 x2 h)

def rmX6_canExchange : Room := { frames := 3, cells := 0, slots := 0, locals := 67 }

set_option maxHeartbeats 4000000 in
set_option maxRecDepth 100000 in
theorem bX6_canExchange_53 {l : Launch} {D : va_G} {cA : Nat → ClassId} {r : Nat → Nat} {G : gG} {xr : Int32} {v' : gV} (X : XM l D cA r RX6 cX6_canExchange 4 (some .boolean) rmX6_canExchange (some (.int xr)) v' G) (v : gV) (x1 : Int32) (s0 : Int32) (h : fX6_canExchange_53 v x1 s0 = some (xr, v')) : G v [(0, .ref (r 0)), (1, .int x1)] 53 [.int s0] := by
  unfold fX6_canExchange_53 at h
  refine g_istore_n X (ls' := [(3, .int s0), (0, .ref (r 0)), (1, .int x1)]) dX6_canExchange_53 rfl (by decide) rfl ?_
  refine g_iload_n X dX6_canExchange_54 rfl 2 rfl ?_
  refine g_aload_n X dX6_canExchange_55 rfl 1 rfl ?_
  refine g_get X fl6_25 hNM_0 (shM_0 _) rfl dX6_canExchange_56 ?_
  refine g_icmp_eq X 96 dX6_canExchange_59 (by decide) (fun c => ?_) (fun c => ?_)
  · replace h := gTr c h
    refine g_iconst X 0 dX6_canExchange_96 (by decide) ?_
    exact g_zretR X (Or.inl rfl) h dX6_canExchange_97
  · replace h := gF c h
    refine g_aload_n X dX6_canExchange_62 rfl 1 rfl ?_
    refine g_iload_n X dX6_canExchange_63 rfl 2 rfl ?_
    obtain ⟨y7, v8, hc9, h⟩ := gB_inv h
    refine g_callV X (st := []) (st' := [.int y7]) kcX6_gives kvX6_gives kl6_171 (⟨rfl, rfl, by decide, by decide⟩) (mX6_gives hc9) hNM_0 (shM_0 _) rfl rfl rfl (Nat.le_of_ble_eq_true rfl) rfl dX6_canExchange_64 ?_
    refine g_if_le X 96 dX6_canExchange_67 (by decide) (fun c => ?_) (fun c => ?_)
    · replace h := gTr c h
      refine g_iconst X 0 dX6_canExchange_96 (by decide) ?_
      exact g_zretR X (Or.inl rfl) h dX6_canExchange_97
    · replace h := gF c h
      refine g_aload_n X dX6_canExchange_70 rfl 1 rfl ?_
      refine g_get X fl6_7 hNM_0 (shM_0 _) rfl dX6_canExchange_71 ?_
      refine g_iconst X 0 dX6_canExchange_74 (by decide) ?_
      refine g_ialdK X 0 hNM_1 (shM_1 _) rfl vin_0_7 dX6_canExchange_75 ?_
      refine g_aload_n X dX6_canExchange_76 rfl 1 rfl ?_
      refine g_iload_n X dX6_canExchange_77 rfl 2 rfl ?_
      obtain ⟨y10, v11, hc12, h⟩ := gB_inv h
      refine g_callV X (st := [.int (v8 1 0)]) (st' := [.int y10, .int (v8 1 0)]) kcX6_gives kvX6_gives kl6_171 (⟨rfl, rfl, by decide, by decide⟩) (mX6_gives hc12) hNM_0 (shM_0 _) rfl rfl rfl (Nat.le_of_ble_eq_true rfl) rfl dX6_canExchange_78 ?_
      refine g_iadd X dX6_canExchange_81 ?_
      refine g_sipush X 999 dX6_canExchange_82 (by decide) ?_
      refine g_icmp_gt X 96 dX6_canExchange_85 (by decide) (fun c => ?_) (fun c => ?_)
      · replace h := gTr c h
        refine g_iconst X 0 dX6_canExchange_96 (by decide) ?_
        exact g_zretR X (Or.inl rfl) h dX6_canExchange_97
      · replace h := gF c h
        refine g_iload_n X dX6_canExchange_88 rfl 0 rfl ?_
        refine g_if_eq X 96 dX6_canExchange_89 (by decide) (fun c => ?_) (fun c => ?_)
        · replace h := gTr c h
          refine g_iconst X 0 dX6_canExchange_96 (by decide) ?_
          exact g_zretR X (Or.inl rfl) h dX6_canExchange_97
        · replace h := gF c h
          refine g_iconst X 1 dX6_canExchange_92 (by decide) ?_
          refine g_goto X 97 dX6_canExchange_93 (by decide) ?_
          exact g_zretR X (Or.inr rfl) h dX6_canExchange_97

set_option maxHeartbeats 4000000 in
set_option maxRecDepth 100000 in
theorem bX6_canExchange_48 {l : Launch} {D : va_G} {cA : Nat → ClassId} {r : Nat → Nat} {G : gG} {xr : Int32} {v' : gV} (X : XM l D cA r RX6 cX6_canExchange 4 (some .boolean) rmX6_canExchange (some (.int xr)) v' G) (v : gV) (x1 : Int32) (h : fX6_canExchange_48 v x1 = some (xr, v')) : G v [(0, .ref (r 0)), (1, .int x1)] 48 [] := by
  unfold fX6_canExchange_48 at h
  refine g_iconst X 1 dX6_canExchange_48 (by decide) ?_
  refine g_goto X 53 dX6_canExchange_49 (by decide) ?_
  exact bX6_canExchange_53 X  _ _ _  h

set_option maxHeartbeats 4000000 in
set_option maxRecDepth 100000 in
theorem bX6_canExchange_52 {l : Launch} {D : va_G} {cA : Nat → ClassId} {r : Nat → Nat} {G : gG} {xr : Int32} {v' : gV} (X : XM l D cA r RX6 cX6_canExchange 4 (some .boolean) rmX6_canExchange (some (.int xr)) v' G) (v : gV) (x1 : Int32) (h : fX6_canExchange_52 v x1 = some (xr, v')) : G v [(0, .ref (r 0)), (1, .int x1)] 52 [] := by
  unfold fX6_canExchange_52 at h
  refine g_iconst X 0 dX6_canExchange_52 (by decide) ?_
  exact bX6_canExchange_53 X  _ _ _  h

set_option maxHeartbeats 4000000 in
set_option maxRecDepth 100000 in
theorem bX6_canExchange_0 {l : Launch} {D : va_G} {cA : Nat → ClassId} {r : Nat → Nat} {G : gG} {xr : Int32} {v' : gV} (X : XM l D cA r RX6 cX6_canExchange 4 (some .boolean) rmX6_canExchange (some (.int xr)) v' G) (v : gV) (x1 : Int32) (h : fX6_canExchange v x1 = some (xr, v')) : G v [(0, .ref (r 0)), (1, .int x1)] 0 [] := by
  unfold fX6_canExchange at h
  refine g_aload_n X dX6_canExchange_0 rfl 0 rfl ?_
  refine g_iload_n X dX6_canExchange_1 rfl 1 rfl ?_
  obtain ⟨y1, v2, hc3, h⟩ := gB_inv h
  refine g_callV X (st := []) (st' := [.int y1]) kcX6_takes kvX6_takes kl6_168 (⟨rfl, rfl, by decide, by decide⟩) (mX6_takes hc3) hNM_0 (shM_0 _) rfl rfl rfl (Nat.le_of_ble_eq_true rfl) rfl dX6_canExchange_2 ?_
  refine g_aload_n X dX6_canExchange_5 rfl 0 rfl ?_
  refine g_get X fl6_7 hNM_0 (shM_0 _) rfl dX6_canExchange_6 ?_
  refine g_aload_n X dX6_canExchange_9 rfl 0 rfl ?_
  refine g_get X fl6_16 hNM_0 (shM_0 _) rfl dX6_canExchange_10 ?_
  refine g_iload_n X dX6_canExchange_13 rfl 1 rfl ?_
  obtain ⟨c, h⟩ := gGd h
  refine g_iald X hNM_3 (shM_3 _) rfl (gin_in c) dX6_canExchange_14 ?_
  obtain ⟨c, h⟩ := gGd h
  refine g_iald X hNM_1 (shM_1 _) rfl (gin_in c) dX6_canExchange_15 ?_
  refine g_isub X dX6_canExchange_16 ?_
  refine g_istore_n X (ls' := [(2, .int (y1 - (v2 1 (v2 3 x1.toNatClampNeg).toNatClampNeg))), (0, .ref (r 0)), (1, .int x1)]) dX6_canExchange_17 rfl (by decide) rfl ?_
  refine g_iload_n X dX6_canExchange_18 rfl 0 rfl ?_
  refine g_if_le X 48 dX6_canExchange_19 (by decide) (fun c => ?_) (fun c => ?_)
  · replace h := gTr c h
    refine g_sub X [1, 2] (ls' := [(0, .ref (r 0)), (1, .int x1)]) rfl ?_
    exact bX6_canExchange_48 X  _ _  h
  · replace h := gF c h
    refine g_aload_n X dX6_canExchange_22 rfl 1 rfl ?_
    refine g_get X fl6_16 hNM_0 (shM_0 _) rfl dX6_canExchange_23 ?_
    refine g_iload_n X dX6_canExchange_26 rfl 2 rfl ?_
    obtain ⟨c, h⟩ := gGd h
    refine g_iald X hNM_3 (shM_3 _) rfl (gin_in c) dX6_canExchange_27 ?_
    refine g_iconst X 1 dX6_canExchange_28 (by decide) ?_
    refine g_icmp_ne X 52 dX6_canExchange_29 (by decide) (fun c => ?_) (fun c => ?_)
    · replace h := gF c h
      refine g_sub X [1, 2] (ls' := [(0, .ref (r 0)), (1, .int x1)]) rfl ?_
      exact bX6_canExchange_52 X  _ _  h
    · replace h := gTr c h
      refine g_iload_n X dX6_canExchange_32 rfl 0 rfl ?_
      refine g_aload_n X dX6_canExchange_33 rfl 1 rfl ?_
      refine g_iload_n X dX6_canExchange_34 rfl 2 rfl ?_
      obtain ⟨y4, v5, hc6, h⟩ := gB_inv h
      refine g_callV X (st := [.int (y1 - (v2 1 (v2 3 x1.toNatClampNeg).toNatClampNeg))]) (st' := [.int y4, .int (y1 - (v2 1 (v2 3 x1.toNatClampNeg).toNatClampNeg))]) kcX6_lends kvX6_lends kl6_174 (⟨rfl, rfl, by decide, by decide⟩) (mX6_lends hc6) hNM_0 (shM_0 _) rfl rfl rfl (Nat.le_of_ble_eq_true rfl) rfl dX6_canExchange_35 ?_
      refine g_aload_n X dX6_canExchange_38 rfl 1 rfl ?_
      refine g_get X fl6_7 hNM_0 (shM_0 _) rfl dX6_canExchange_39 ?_
      refine g_iconst X 4 dX6_canExchange_42 (by decide) ?_
      refine g_ialdK X 4 hNM_1 (shM_1 _) rfl vin_4_7 dX6_canExchange_43 ?_
      refine g_isub X dX6_canExchange_44 ?_
      refine g_icmp_gt X 52 dX6_canExchange_45 (by decide) (fun c => ?_) (fun c => ?_)
      · replace h := gTr c h
        refine g_sub X [1, 2] (ls' := [(0, .ref (r 0)), (1, .int x1)]) rfl ?_
        exact bX6_canExchange_52 X  _ _  h
      · replace h := gF c h
        refine g_sub X [1, 2] (ls' := [(0, .ref (r 0)), (1, .int x1)]) rfl ?_
        exact bX6_canExchange_48 X  _ _  h

theorem mX6_canExchange {l : Launch} {D : va_G} {cA : Nat → ClassId} {r : Nat → Nat} {v : gV} {x1 : Int32} {xr : Int32} {v' : gV} (h : fX6_canExchange v x1 = some (xr, v')) : Ct l D (tysM cA) (shM cA r) 19 r (ZM r) yX6_canExchange cX6_canExchange 4 (some .boolean) rmX6_canExchange [.ref (r 0), .int x1] v (some (.int xr)) v' := ct_of plX6 ZM_ok (Nat.le_of_ble_eq_true rfl) rfl (fun _ X => bX6_canExchange_0 X v x1 h)

def rmX6_canMove : Room := { frames := 4, cells := 0, slots := 0, locals := 90 }

set_option maxHeartbeats 4000000 in
set_option maxRecDepth 100000 in
theorem bX6_canMove_29 {l : Launch} {D : va_G} {cA : Nat → ClassId} {r : Nat → Nat} {G : gG} {xr : Int32} {v' : gV} (X : XM l D cA r RX6 cX6_canMove 2 (some .boolean) rmX6_canMove (some (.int xr)) v' G) (v : gV)  (h : fX6_canMove_29 v  = some (xr, v')) : G v [] 29 [] := by
  unfold fX6_canMove_29 at h
  refine g_iconst X 0 dX6_canMove_29 (by decide) ?_
  refine g_goto X 40 dX6_canMove_30 (by decide) ?_
  exact g_zretR X (Or.inl rfl) h dX6_canMove_40

set_option maxHeartbeats 4000000 in
set_option maxRecDepth 100000 in
theorem bX6_canMove_0 {l : Launch} {D : va_G} {cA : Nat → ClassId} {r : Nat → Nat} {G : gG} {xr : Int32} {v' : gV} (X : XM l D cA r RX6 cX6_canMove 2 (some .boolean) rmX6_canMove (some (.int xr)) v' G) (v : gV) (x1 : Int32) (h : fX6_canMove v x1 = some (xr, v')) : G v [(0, .ref (r 0)), (1, .int x1)] 0 [] := by
  unfold fX6_canMove at h
  refine g_iload_n X dX6_canMove_0 rfl 1 rfl ?_
  refine g_if_ne X 33 dX6_canMove_1 (by decide) (fun c => ?_) (fun c => ?_)
  · replace h := gF c h
    refine g_aload_n X dX6_canMove_33 rfl 0 rfl ?_
    refine g_iload_n X dX6_canMove_34 rfl 1 rfl ?_
    refine g_iconst X 1 dX6_canMove_35 (by decide) ?_
    refine g_isub X dX6_canMove_36 ?_
    obtain ⟨y1, v2, hc3, h⟩ := gB_inv h
    refine g_callV X (st := []) (st' := [.int y1]) kcX6_canExchange kvX6_canExchange kl6_177 (⟨rfl, rfl, by decide, by decide⟩) (mX6_canExchange hc3) hNM_0 (shM_0 _) rfl rfl rfl (Nat.le_of_ble_eq_true rfl) rfl dX6_canMove_37 ?_
    obtain ⟨c, h⟩ := gGd h
    exact g_zretR X c h dX6_canMove_40
  · replace h := gTr c h
    refine g_aload_n X dX6_canMove_4 rfl 0 rfl ?_
    refine g_get X fl6_7 hNM_0 (shM_0 _) rfl dX6_canMove_5 ?_
    refine g_iconst X 0 dX6_canMove_8 (by decide) ?_
    refine g_ialdK X 0 hNM_1 (shM_1 _) rfl vin_0_7 dX6_canMove_9 ?_
    refine g_if_le X 29 dX6_canMove_10 (by decide) (fun c => ?_) (fun c => ?_)
    · replace h := gTr c h
      refine g_sub X [] (ls' := []) rfl ?_
      exact bX6_canMove_29 X  _   h
    · replace h := gF c h
      refine g_aload_n X dX6_canMove_13 rfl 0 rfl ?_
      refine g_get X fl6_7 hNM_0 (shM_0 _) rfl dX6_canMove_14 ?_
      refine g_iconst X 5 dX6_canMove_17 (by decide) ?_
      refine g_ialdK X 5 hNM_1 (shM_1 _) rfl vin_5_7 dX6_canMove_18 ?_
      refine g_sipush X 999 dX6_canMove_19 (by decide) ?_
      refine g_icmp_ge X 29 dX6_canMove_22 (by decide) (fun c => ?_) (fun c => ?_)
      · replace h := gTr c h
        refine g_sub X [] (ls' := []) rfl ?_
        exact bX6_canMove_29 X  _   h
      · replace h := gF c h
        refine g_iconst X 1 dX6_canMove_25 (by decide) ?_
        refine g_goto X 40 dX6_canMove_26 (by decide) ?_
        exact g_zretR X (Or.inr rfl) h dX6_canMove_40

theorem mX6_canMove {l : Launch} {D : va_G} {cA : Nat → ClassId} {r : Nat → Nat} {v : gV} {x1 : Int32} {xr : Int32} {v' : gV} (h : fX6_canMove v x1 = some (xr, v')) : Ct l D (tysM cA) (shM cA r) 19 r (ZM r) yX6_canMove cX6_canMove 2 (some .boolean) rmX6_canMove [.ref (r 0), .int x1] v (some (.int xr)) v' := ct_of plX6 ZM_ok (Nat.le_of_ble_eq_true rfl) rfl (fun _ X => bX6_canMove_0 X v x1 h)

def rmX6_drinks : Room := { frames := 3, cells := 0, slots := 0, locals := 67 }

set_option maxHeartbeats 4000000 in
set_option maxRecDepth 100000 in
theorem bX6_drinks_26 {l : Launch} {D : va_G} {cA : Nat → ClassId} {r : Nat → Nat} {G : gG} {xr : Unit} {v' : gV} (X : XM l D cA r RX6 cX6_drinks 3 none rmX6_drinks none v' G) (v : gV) (x1 : Int32) (s0 : Int32) (h : fX6_drinks_26 v x1 s0 = some (xr, v')) : G v [(0, .ref (r 0)), (1, .int x1)] 26 [.int s0] := by
  unfold fX6_drinks_26 at h
  refine g_istore_n X (ls' := [(2, .int s0), (0, .ref (r 0)), (1, .int x1)]) dX6_drinks_26 rfl (by decide) rfl ?_
  refine g_aload_n X dX6_drinks_27 rfl 1 rfl ?_
  refine g_get X fl6_7 hNM_0 (shM_0 _) rfl dX6_drinks_28 ?_
  refine g_iconst X 0 dX6_drinks_31 (by decide) ?_
  refine g_dup2 X dX6_drinks_32 rfl rfl ?_
  refine g_ialdK X 0 hNM_1 (shM_1 _) rfl vin_0_7 dX6_drinks_33 ?_
  refine g_iconst X 1 dX6_drinks_34 (by decide) ?_
  refine g_isub X dX6_drinks_35 ?_
  refine g_iastK X 0 hNM_1 (shM_1) rfl vin_0_7 dX6_drinks_36 ?_
  refine g_aload_n X dX6_drinks_37 rfl 1 rfl ?_
  refine g_get X fl6_7 hNM_0 (shM_0 _) rfl dX6_drinks_38 ?_
  refine g_iconst X 5 dX6_drinks_41 (by decide) ?_
  refine g_dup2 X dX6_drinks_42 rfl rfl ?_
  refine g_ialdK X 5 hNM_1 (shM_1 _) rfl vin_5_7 dX6_drinks_43 ?_
  refine g_iconst X 1 dX6_drinks_44 (by decide) ?_
  refine g_iadd X dX6_drinks_45 ?_
  refine g_iastK X 5 hNM_1 (shM_1) rfl vin_5_7 dX6_drinks_46 ?_
  refine g_aload_n X dX6_drinks_47 rfl 1 rfl ?_
  refine g_get X fl6_7 hNM_0 (shM_0 _) rfl dX6_drinks_48 ?_
  refine g_iconst X 4 dX6_drinks_51 (by decide) ?_
  refine g_dup2 X dX6_drinks_52 rfl rfl ?_
  refine g_ialdK X 4 hNM_1 (shM_1 _) rfl vin_4_7 dX6_drinks_53 ?_
  refine g_iload_n X dX6_drinks_54 rfl 0 rfl ?_
  refine g_isub X dX6_drinks_55 ?_
  refine g_iastK X 4 hNM_1 (shM_1) rfl vin_4_7 dX6_drinks_56 ?_
  refine g_aload_n X dX6_drinks_57 rfl 1 rfl ?_
  refine g_get X fl6_7 hNM_0 (shM_0 _) rfl dX6_drinks_58 ?_
  refine g_iconst X 1 dX6_drinks_61 (by decide) ?_
  refine g_aload_n X dX6_drinks_62 rfl 1 rfl ?_
  refine g_get X fl6_7 hNM_0 (shM_0 _) rfl dX6_drinks_63 ?_
  refine g_iconst X 1 dX6_drinks_66 (by decide) ?_
  refine g_ialdK X 1 hNM_1 (shM_1 _) rfl vin_1_7 dX6_drinks_67 ?_
  refine g_iload_n X dX6_drinks_68 rfl 2 rfl ?_
  refine g_iadd X dX6_drinks_69 ?_
  refine g_iload_n X dX6_drinks_70 rfl 0 rfl ?_
  refine g_isub X dX6_drinks_71 ?_
  refine g_iconst X 0 dX6_drinks_72 (by decide) ?_
  refine g_sipush X 999 dX6_drinks_73 (by decide) ?_
  obtain ⟨y4, v5, hc6, h⟩ := gB_inv h
  refine g_callS X (st := [.int 1, .ref (r 1)]) (st' := [.int y4, .int 1, .ref (r 1)]) kcX6_within ktX6_within kl6_155 (⟨rfl, rfl, by decide, by decide⟩) (mX6_within hc6) rfl rfl (Nat.le_of_ble_eq_true rfl) rfl dX6_drinks_76 ?_
  refine g_iastK X 1 hNM_1 (shM_1) rfl vin_1_7 dX6_drinks_79 ?_
  refine g_aload_n X dX6_drinks_80 rfl 1 rfl ?_
  refine g_get X fl6_7 hNM_0 (shM_0 _) rfl dX6_drinks_81 ?_
  refine g_iconst X 2 dX6_drinks_84 (by decide) ?_
  refine g_aload_n X dX6_drinks_85 rfl 1 rfl ?_
  refine g_get X fl6_7 hNM_0 (shM_0 _) rfl dX6_drinks_86 ?_
  refine g_iconst X 2 dX6_drinks_89 (by decide) ?_
  refine g_ialdK X 2 hNM_1 (shM_1 _) rfl vin_2_7 dX6_drinks_90 ?_
  refine g_iconst X 1 dX6_drinks_91 (by decide) ?_
  refine g_iadd X dX6_drinks_92 ?_
  refine g_iconst X 0 dX6_drinks_93 (by decide) ?_
  refine g_sipush X 999 dX6_drinks_94 (by decide) ?_
  obtain ⟨y7, v8, hc9, h⟩ := gB_inv h
  refine g_callS X (st := [.int 2, .ref (r 1)]) (st' := [.int y7, .int 2, .ref (r 1)]) kcX6_within ktX6_within kl6_155 (⟨rfl, rfl, by decide, by decide⟩) (mX6_within hc9) rfl rfl (Nat.le_of_ble_eq_true rfl) rfl dX6_drinks_97 ?_
  refine g_iastK X 2 hNM_1 (shM_1) rfl vin_2_7 dX6_drinks_100 ?_
  refine g_aload_n X dX6_drinks_101 rfl 1 rfl ?_
  refine g_get X fl6_7 hNM_0 (shM_0 _) rfl dX6_drinks_102 ?_
  refine g_iconst X 3 dX6_drinks_105 (by decide) ?_
  refine g_aload_n X dX6_drinks_106 rfl 1 rfl ?_
  refine g_get X fl6_7 hNM_0 (shM_0 _) rfl dX6_drinks_107 ?_
  refine g_iconst X 3 dX6_drinks_110 (by decide) ?_
  refine g_ialdK X 3 hNM_1 (shM_1 _) rfl vin_3_7 dX6_drinks_111 ?_
  refine g_iconst X 1 dX6_drinks_112 (by decide) ?_
  refine g_iadd X dX6_drinks_113 ?_
  refine g_iconst X 0 dX6_drinks_114 (by decide) ?_
  refine g_sipush X 999 dX6_drinks_115 (by decide) ?_
  obtain ⟨y10, v11, hc12, h⟩ := gB_inv h
  refine g_callS X (st := [.int 3, .ref (r 1)]) (st' := [.int y10, .int 3, .ref (r 1)]) kcX6_within ktX6_within kl6_155 (⟨rfl, rfl, by decide, by decide⟩) (mX6_within hc12) rfl rfl (Nat.le_of_ble_eq_true rfl) rfl dX6_drinks_118 ?_
  refine g_iastK X 3 hNM_1 (shM_1) rfl vin_3_7 dX6_drinks_121 ?_
  exact g_vretR X h dX6_drinks_122

set_option maxHeartbeats 4000000 in
set_option maxRecDepth 100000 in
theorem bX6_drinks_0 {l : Launch} {D : va_G} {cA : Nat → ClassId} {r : Nat → Nat} {G : gG} {xr : Unit} {v' : gV} (X : XM l D cA r RX6 cX6_drinks 3 none rmX6_drinks none v' G) (v : gV)  (h : fX6_drinks v  = some (xr, v')) : G v [(0, .ref (r 0))] 0 [] := by
  unfold fX6_drinks at h
  refine g_aload_n X dX6_drinks_0 rfl 0 rfl ?_
  refine g_iconst X 0 dX6_drinks_1 (by decide) ?_
  obtain ⟨y1, v2, hc3, h⟩ := gB_inv h
  refine g_callV X (st := []) (st' := [.int y1]) kcX6_asksOf kvX6_asksOf kl6_158 (⟨rfl, rfl, by decide, by decide⟩) (mX6_asksOf hc3) hNM_0 (shM_0 _) rfl rfl rfl (Nat.le_of_ble_eq_true rfl) rfl dX6_drinks_2 ?_
  refine g_istore_n X (ls' := [(1, .int y1), (0, .ref (r 0))]) dX6_drinks_5 rfl (by decide) rfl ?_
  refine g_iload_n X dX6_drinks_6 rfl 0 rfl ?_
  refine g_aload_n X dX6_drinks_7 rfl 1 rfl ?_
  refine g_get X fl6_7 hNM_0 (shM_0 _) rfl dX6_drinks_8 ?_
  refine g_iconst X 4 dX6_drinks_11 (by decide) ?_
  refine g_ialdK X 4 hNM_1 (shM_1 _) rfl vin_4_7 dX6_drinks_12 ?_
  refine g_icmp_ge X 20 dX6_drinks_13 (by decide) (fun c => ?_) (fun c => ?_)
  · replace h := gTr c h
    refine g_aload_n X dX6_drinks_20 rfl 1 rfl ?_
    refine g_get X fl6_7 hNM_0 (shM_0 _) rfl dX6_drinks_21 ?_
    refine g_iconst X 4 dX6_drinks_24 (by decide) ?_
    refine g_ialdK X 4 hNM_1 (shM_1 _) rfl vin_4_7 dX6_drinks_25 ?_
    refine g_sub X [1, 0] (ls' := [(0, .ref (r 0)), (1, .int y1)]) rfl ?_
    exact bX6_drinks_26 X  _ _ _  h
  · replace h := gF c h
    refine g_iload_n X dX6_drinks_16 rfl 0 rfl ?_
    refine g_goto X 26 dX6_drinks_17 (by decide) ?_
    refine g_sub X [1, 0] (ls' := [(0, .ref (r 0)), (1, .int y1)]) rfl ?_
    exact bX6_drinks_26 X  _ _ _  h

theorem mX6_drinks {l : Launch} {D : va_G} {cA : Nat → ClassId} {r : Nat → Nat} {v : gV}  {xr : Unit} {v' : gV} (h : fX6_drinks v  = some (xr, v')) : Ct l D (tysM cA) (shM cA r) 19 r (ZM r) yX6_drinks cX6_drinks 3 none rmX6_drinks [.ref (r 0)] v none v' := ct_of plX6 ZM_ok (Nat.le_of_ble_eq_true rfl) rfl (fun _ X => bX6_drinks_0 X v  h)

def rmX6_exchanges : Room := { frames := 3, cells := 0, slots := 0, locals := 67 }

set_option maxHeartbeats 4000000 in
set_option maxRecDepth 100000 in
theorem bX6_exchanges_36 {l : Launch} {D : va_G} {cA : Nat → ClassId} {r : Nat → Nat} {G : gG} {xr : Unit} {v' : gV} (X : XM l D cA r RX6 cX6_exchanges 5 none rmX6_exchanges none v' G) (v : gV) (x1 : Int32) (x2 : Int32) (s0 : Int32) (h : fX6_exchanges_36 v x1 x2 s0 = some (xr, v')) : G v [(0, .ref (r 0)), (1, .int x1), (2, .int x2)] 36 [.int s0] := by
  unfold fX6_exchanges_36 at h
  refine g_istore_n X (ls' := [(3, .int s0), (0, .ref (r 0)), (1, .int x1), (2, .int x2)]) dX6_exchanges_36 rfl (by decide) rfl ?_
  refine g_aload_n X dX6_exchanges_37 rfl 1 rfl ?_
  refine g_iload_n X dX6_exchanges_38 rfl 2 rfl ?_
  obtain ⟨y4, v5, hc6, h⟩ := gB_inv h
  refine g_callV X (st := []) (st' := [.int y4]) kcX6_gives kvX6_gives kl6_171 (⟨rfl, rfl, by decide, by decide⟩) (mX6_gives hc6) hNM_0 (shM_0 _) rfl rfl rfl (Nat.le_of_ble_eq_true rfl) rfl dX6_exchanges_39 ?_
  refine g_istore X (ls' := [(4, .int y4), (3, .int s0), (0, .ref (r 0)), (1, .int x1), (2, .int x2)]) dX6_exchanges_42 (by decide) rfl ?_
  refine g_aload_n X dX6_exchanges_44 rfl 2 rfl ?_
  refine g_get X fl6_7 hNM_0 (shM_0 _) rfl dX6_exchanges_45 ?_
  refine g_iconst X 4 dX6_exchanges_48 (by decide) ?_
  refine g_dup2 X dX6_exchanges_49 rfl rfl ?_
  refine g_ialdK X 4 hNM_1 (shM_1 _) rfl vin_4_7 dX6_exchanges_50 ?_
  refine g_iload_n X dX6_exchanges_51 rfl 4 rfl ?_
  refine g_iload_n X dX6_exchanges_52 rfl 1 rfl ?_
  refine g_isub X dX6_exchanges_53 ?_
  refine g_iadd X dX6_exchanges_54 ?_
  refine g_iastK X 4 hNM_1 (shM_1) rfl vin_4_7 dX6_exchanges_55 ?_
  refine g_aload_n X dX6_exchanges_56 rfl 2 rfl ?_
  refine g_get X fl6_7 hNM_0 (shM_0 _) rfl dX6_exchanges_57 ?_
  refine g_aload_n X dX6_exchanges_60 rfl 2 rfl ?_
  refine g_get X fl6_16 hNM_0 (shM_0 _) rfl dX6_exchanges_61 ?_
  refine g_iload_n X dX6_exchanges_64 rfl 3 rfl ?_
  obtain ⟨c, h⟩ := gGd h
  refine g_iald X hNM_3 (shM_3 _) rfl (gin_in c) dX6_exchanges_65 ?_
  refine g_dup2 X dX6_exchanges_66 rfl rfl ?_
  obtain ⟨c, h⟩ := gGd h
  refine g_iald X hNM_1 (shM_1 _) rfl (gin_in c) dX6_exchanges_67 ?_
  refine g_iload_n X dX6_exchanges_68 rfl 1 rfl ?_
  refine g_isub X dX6_exchanges_69 ?_
  obtain ⟨c, h⟩ := gGd h
  refine g_iast X hNM_1 (shM_1) rfl (gin_in c) dX6_exchanges_70 ?_
  refine g_aload_n X dX6_exchanges_71 rfl 2 rfl ?_
  refine g_get X fl6_7 hNM_0 (shM_0 _) rfl dX6_exchanges_72 ?_
  refine g_iconst X 0 dX6_exchanges_75 (by decide) ?_
  refine g_dup2 X dX6_exchanges_76 rfl rfl ?_
  refine g_ialdK X 0 hNM_1 (shM_1 _) rfl vin_0_7 dX6_exchanges_77 ?_
  refine g_iload X dX6_exchanges_78 0 rfl ?_
  refine g_iadd X dX6_exchanges_80 ?_
  refine g_iastK X 0 hNM_1 (shM_1) rfl vin_0_7 dX6_exchanges_81 ?_
  exact g_vretR X h dX6_exchanges_82

set_option maxHeartbeats 4000000 in
set_option maxRecDepth 100000 in
theorem bX6_exchanges_0 {l : Launch} {D : va_G} {cA : Nat → ClassId} {r : Nat → Nat} {G : gG} {xr : Unit} {v' : gV} (X : XM l D cA r RX6 cX6_exchanges 5 none rmX6_exchanges none v' G) (v : gV) (x1 : Int32) (h : fX6_exchanges v x1 = some (xr, v')) : G v [(0, .ref (r 0)), (1, .int x1)] 0 [] := by
  unfold fX6_exchanges at h
  refine g_aload_n X dX6_exchanges_0 rfl 0 rfl ?_
  refine g_iload_n X dX6_exchanges_1 rfl 1 rfl ?_
  obtain ⟨y1, v2, hc3, h⟩ := gB_inv h
  refine g_callV X (st := []) (st' := [.int y1]) kcX6_takes kvX6_takes kl6_168 (⟨rfl, rfl, by decide, by decide⟩) (mX6_takes hc3) hNM_0 (shM_0 _) rfl rfl rfl (Nat.le_of_ble_eq_true rfl) rfl dX6_exchanges_2 ?_
  refine g_istore_n X (ls' := [(2, .int y1), (0, .ref (r 0)), (1, .int x1)]) dX6_exchanges_5 rfl (by decide) rfl ?_
  refine g_aload_n X dX6_exchanges_6 rfl 1 rfl ?_
  refine g_get X fl6_7 hNM_0 (shM_0 _) rfl dX6_exchanges_7 ?_
  refine g_aload_n X dX6_exchanges_10 rfl 1 rfl ?_
  refine g_get X fl6_16 hNM_0 (shM_0 _) rfl dX6_exchanges_11 ?_
  refine g_iload_n X dX6_exchanges_14 rfl 2 rfl ?_
  obtain ⟨c, h⟩ := gGd h
  refine g_iald X hNM_3 (shM_3 _) rfl (gin_in c) dX6_exchanges_15 ?_
  obtain ⟨c, h⟩ := gGd h
  refine g_iald X hNM_1 (shM_1 _) rfl (gin_in c) dX6_exchanges_16 ?_
  refine g_iload_n X dX6_exchanges_17 rfl 0 rfl ?_
  refine g_icmp_ge X 35 dX6_exchanges_18 (by decide) (fun c => ?_) (fun c => ?_)
  · replace h := gTr c h
    refine g_iload_n X dX6_exchanges_35 rfl 0 rfl ?_
    refine g_sub X [1, 2, 0] (ls' := [(0, .ref (r 0)), (1, .int x1), (2, .int y1)]) rfl ?_
    exact bX6_exchanges_36 X  _ _ _ _  h
  · replace h := gF c h
    refine g_aload_n X dX6_exchanges_21 rfl 1 rfl ?_
    refine g_get X fl6_7 hNM_0 (shM_0 _) rfl dX6_exchanges_22 ?_
    refine g_aload_n X dX6_exchanges_25 rfl 1 rfl ?_
    refine g_get X fl6_16 hNM_0 (shM_0 _) rfl dX6_exchanges_26 ?_
    refine g_iload_n X dX6_exchanges_29 rfl 2 rfl ?_
    obtain ⟨c, h⟩ := gGd h
    refine g_iald X hNM_3 (shM_3 _) rfl (gin_in c) dX6_exchanges_30 ?_
    obtain ⟨c, h⟩ := gGd h
    refine g_iald X hNM_1 (shM_1 _) rfl (gin_in c) dX6_exchanges_31 ?_
    refine g_goto X 36 dX6_exchanges_32 (by decide) ?_
    refine g_sub X [1, 2, 0] (ls' := [(0, .ref (r 0)), (1, .int x1), (2, .int y1)]) rfl ?_
    exact bX6_exchanges_36 X  _ _ _ _  h

theorem mX6_exchanges {l : Launch} {D : va_G} {cA : Nat → ClassId} {r : Nat → Nat} {v : gV} {x1 : Int32} {xr : Unit} {v' : gV} (h : fX6_exchanges v x1 = some (xr, v')) : Ct l D (tysM cA) (shM cA r) 19 r (ZM r) yX6_exchanges cX6_exchanges 5 none rmX6_exchanges [.ref (r 0), .int x1] v none v' := ct_of plX6 ZM_ok (Nat.le_of_ble_eq_true rfl) rfl (fun _ X => bX6_exchanges_0 X v x1 h)

def rmX6_goes : Room := { frames := 4, cells := 0, slots := 0, locals := 91 }

set_option maxHeartbeats 4000000 in
set_option maxRecDepth 100000 in
theorem bX6_goes_0 {l : Launch} {D : va_G} {cA : Nat → ClassId} {r : Nat → Nat} {G : gG} {xr : Unit} {v' : gV} (X : XM l D cA r RX6 cX6_goes 2 none rmX6_goes none v' G) (v : gV) (x1 : Int32) (h : fX6_goes v x1 = some (xr, v')) : G v [(0, .ref (r 0)), (1, .int x1)] 0 [] := by
  unfold fX6_goes at h
  refine g_iload_n X dX6_goes_0 rfl 1 rfl ?_
  refine g_if_ne X 11 dX6_goes_1 (by decide) (fun c => ?_) (fun c => ?_)
  · replace h := gF c h
    refine g_aload_n X dX6_goes_11 rfl 0 rfl ?_
    refine g_iload_n X dX6_goes_12 rfl 1 rfl ?_
    refine g_iconst X 1 dX6_goes_13 (by decide) ?_
    refine g_isub X dX6_goes_14 ?_
    obtain ⟨y1, v2, hc3, h⟩ := gB_inv h
    refine g_callV X (st := []) (st' := []) kcX6_exchanges kvX6_exchanges kl6_183 (⟨rfl, rfl, by decide, by decide⟩) (mX6_exchanges hc3) hNM_0 (shM_0 _) rfl rfl rfl (Nat.le_of_ble_eq_true rfl) rfl dX6_goes_15 ?_
    exact g_vretR X h dX6_goes_18
  · replace h := gTr c h
    refine g_aload_n X dX6_goes_4 rfl 0 rfl ?_
    obtain ⟨y4, v5, hc6, h⟩ := gB_inv h
    refine g_callV X (st := []) (st' := []) kcX6_drinks kvX6_drinks kl6_180 (⟨rfl, rfl, by decide, by decide⟩) (mX6_drinks hc6) hNM_0 (shM_0 _) rfl rfl rfl (Nat.le_of_ble_eq_true rfl) rfl dX6_goes_5 ?_
    refine g_goto X 18 dX6_goes_8 (by decide) ?_
    exact g_vretR X h dX6_goes_18

theorem mX6_goes {l : Launch} {D : va_G} {cA : Nat → ClassId} {r : Nat → Nat} {v : gV} {x1 : Int32} {xr : Unit} {v' : gV} (h : fX6_goes v x1 = some (xr, v')) : Ct l D (tysM cA) (shM cA r) 19 r (ZM r) yX6_goes cX6_goes 2 none rmX6_goes [.ref (r 0), .int x1] v none v' := ct_of plX6 ZM_ok (Nat.le_of_ble_eq_true rfl) rfl (fun _ X => bX6_goes_0 X v x1 h)

def rmX6_can : Room := { frames := 5, cells := 0, slots := 0, locals := 111 }

set_option maxHeartbeats 4000000 in
set_option maxRecDepth 100000 in
theorem bX6_can_0 {l : Launch} {D : va_G} {cA : Nat → ClassId} {r : Nat → Nat} {G : gG} {xr : Int32} {v' : gV} (X : XM l D cA r RX6 cX6_can 2 (some .int) rmX6_can (some (.int xr)) v' G) (v : gV) (x1 : Int32) (h : fX6_can v x1 = some (xr, v')) : G v [(0, .ref (r 0)), (1, .int x1)] 0 [] := by
  unfold fX6_can at h
  refine g_aload_n X dX6_can_0 rfl 0 rfl ?_
  refine g_iload_n X dX6_can_1 rfl 1 rfl ?_
  obtain ⟨y1, v2, hc3, h⟩ := gB_inv h
  refine g_callV X (st := []) (st' := [.int y1]) kcX6_isMove kvX6_isMove kl6_186 (⟨rfl, rfl, by decide, by decide⟩) (mX6_isMove hc3) hNM_0 (shM_0 _) rfl rfl rfl (Nat.le_of_ble_eq_true rfl) rfl dX6_can_2 ?_
  refine g_if_ne X 13 dX6_can_5 (by decide) (fun c => ?_) (fun c => ?_)
  · replace h := gF c h
    refine g_aload_n X dX6_can_13 rfl 0 rfl ?_
    refine g_iload_n X dX6_can_14 rfl 1 rfl ?_
    obtain ⟨y4, v5, hc6, h⟩ := gB_inv h
    refine g_callV X (st := []) (st' := [.int y4]) kcX6_canMove kvX6_canMove kl6_189 (⟨rfl, rfl, by decide, by decide⟩) (mX6_canMove hc6) hNM_0 (shM_0 _) rfl rfl rfl (Nat.le_of_ble_eq_true rfl) rfl dX6_can_15 ?_
    refine g_if_eq X 25 dX6_can_18 (by decide) (fun c => ?_) (fun c => ?_)
    · replace h := gTr c h
      refine g_iconst X 0 dX6_can_25 (by decide) ?_
      exact g_iretR X h dX6_can_26
    · replace h := gF c h
      refine g_iconst X 1 dX6_can_21 (by decide) ?_
      refine g_goto X 26 dX6_can_22 (by decide) ?_
      exact g_iretR X h dX6_can_26
  · replace h := gTr c h
    refine g_bipush X (-5) dX6_can_8 (by decide) ?_
    refine g_goto X 26 dX6_can_10 (by decide) ?_
    exact g_iretR X h dX6_can_26

theorem mX6_can {l : Launch} {D : va_G} {cA : Nat → ClassId} {r : Nat → Nat} {v : gV} {x1 : Int32} {xr : Int32} {v' : gV} (h : fX6_can v x1 = some (xr, v')) : Ct l D (tysM cA) (shM cA r) 19 r (ZM r) yX6_can cX6_can 2 (some .int) rmX6_can [.ref (r 0), .int x1] v (some (.int xr)) v' := ct_of plX6 ZM_ok (Nat.le_of_ble_eq_true rfl) rfl (fun _ X => bX6_can_0 X v x1 h)

def rmX6_move : Room := { frames := 5, cells := 0, slots := 0, locals := 112 }

set_option maxHeartbeats 4000000 in
set_option maxRecDepth 100000 in
theorem bX6_move_0 {l : Launch} {D : va_G} {cA : Nat → ClassId} {r : Nat → Nat} {G : gG} {xr : Int32} {v' : gV} (X : XM l D cA r RX6 cX6_move 2 (some .int) rmX6_move (some (.int xr)) v' G) (v : gV) (x1 : Int32) (h : fX6_move v x1 = some (xr, v')) : G v [(0, .ref (r 0)), (1, .int x1)] 0 [] := by
  unfold fX6_move at h
  refine g_aload_n X dX6_move_0 rfl 0 rfl ?_
  refine g_iload_n X dX6_move_1 rfl 1 rfl ?_
  obtain ⟨y1, v2, hc3, h⟩ := gB_inv h
  refine g_callV X (st := []) (st' := [.int y1]) kcX6_isMove kvX6_isMove kl6_186 (⟨rfl, rfl, by decide, by decide⟩) (mX6_isMove hc3) hNM_0 (shM_0 _) rfl rfl rfl (Nat.le_of_ble_eq_true rfl) rfl dX6_move_2 ?_
  refine g_if_ne X 11 dX6_move_5 (by decide) (fun c => ?_) (fun c => ?_)
  · replace h := gF c h
    refine g_aload_n X dX6_move_11 rfl 0 rfl ?_
    refine g_iload_n X dX6_move_12 rfl 1 rfl ?_
    obtain ⟨y4, v5, hc6, h⟩ := gB_inv h
    refine g_callV X (st := []) (st' := [.int y4]) kcX6_canMove kvX6_canMove kl6_189 (⟨rfl, rfl, by decide, by decide⟩) (mX6_canMove hc6) hNM_0 (shM_0 _) rfl rfl rfl (Nat.le_of_ble_eq_true rfl) rfl dX6_move_13 ?_
    refine g_if_ne X 22 dX6_move_16 (by decide) (fun c => ?_) (fun c => ?_)
    · replace h := gF c h
      refine g_aload_n X dX6_move_22 rfl 0 rfl ?_
      refine g_iload_n X dX6_move_23 rfl 1 rfl ?_
      obtain ⟨y7, v8, hc9, h⟩ := gB_inv h
      refine g_callV X (st := []) (st' := []) kcX6_goes kvX6_goes kl6_192 (⟨rfl, rfl, by decide, by decide⟩) (mX6_goes hc9) hNM_0 (shM_0 _) rfl rfl rfl (Nat.le_of_ble_eq_true rfl) rfl dX6_move_24 ?_
      refine g_aload_n X dX6_move_27 rfl 0 rfl ?_
      refine g_get X fl6_7 hNM_0 (shM_0 _) rfl dX6_move_28 ?_
      refine g_iconst X 5 dX6_move_31 (by decide) ?_
      refine g_ialdK X 5 hNM_1 (shM_1 _) rfl vin_5_7 dX6_move_32 ?_
      exact g_iretR X h dX6_move_33
    · replace h := gTr c h
      refine g_bipush X (-3) dX6_move_19 (by decide) ?_
      exact g_iretR X h dX6_move_21
  · replace h := gTr c h
    refine g_bipush X (-5) dX6_move_8 (by decide) ?_
    exact g_iretR X h dX6_move_10

theorem mX6_move {l : Launch} {D : va_G} {cA : Nat → ClassId} {r : Nat → Nat} {v : gV} {x1 : Int32} {xr : Int32} {v' : gV} (h : fX6_move v x1 = some (xr, v')) : Ct l D (tysM cA) (shM cA r) 19 r (ZM r) yX6_move cX6_move 2 (some .int) rmX6_move [.ref (r 0), .int x1] v (some (.int xr)) v' := ct_of plX6 ZM_ok (Nat.le_of_ble_eq_true rfl) rfl (fun _ X => bX6_move_0 X v x1 h)

def rmX6_greedy : Room := { frames := 5, cells := 0, slots := 0, locals := 111 }

set_option maxHeartbeats 4000000 in
set_option maxRecDepth 100000 in
theorem bX6_greedy_2 {l : Launch} {D : va_G} {cA : Nat → ClassId} {r : Nat → Nat} {G : gG} {xr : Int32} {v' : gV} (X : XM l D cA r RX6 cX6_greedy 2 (some .int) rmX6_greedy (some (.int xr)) v' G) : ∀ (n : Nat) (v : gV) (x1 : Int32), fX6_greedy_2 n v x1 = some (xr, v') → G v [(0, .ref (r 0)), (1, .int x1)] 2 [] := by
  intro n
  induction n with
  | zero => intro v x1 h; rw [fX6_greedy_2] at h; cases h
  | succ n ih =>
    intro v x1 h
    rw [fX6_greedy_2] at h
    refine g_iload_n X dX6_greedy_2 rfl 1 rfl ?_
    refine g_aload_n X dX6_greedy_3 rfl 0 rfl ?_
    refine g_get X fl6_75 hNM_0 (shM_0 _) rfl dX6_greedy_4 ?_
    refine g_icmp_gt X 26 dX6_greedy_7 (by decide) (fun c => ?_) (fun c => ?_)
    · replace h := gTr c h
      refine g_iconst X (-1) dX6_greedy_26 (by decide) ?_
      exact g_iretR X h dX6_greedy_27
    · replace h := gF c h
      refine g_aload_n X dX6_greedy_10 rfl 0 rfl ?_
      refine g_iload_n X dX6_greedy_11 rfl 1 rfl ?_
      obtain ⟨y1, v2, hc3, h⟩ := gB_inv h
      refine g_callV X (st := []) (st' := [.int y1]) kcX6_canMove kvX6_canMove kl6_189 (⟨rfl, rfl, by decide, by decide⟩) (mX6_canMove hc3) hNM_0 (shM_0 _) rfl rfl rfl (Nat.le_of_ble_eq_true rfl) rfl dX6_greedy_12 ?_
      refine g_if_eq X 20 dX6_greedy_15 (by decide) (fun c => ?_) (fun c => ?_)
      · replace h := gTr c h
        refine g_iinc X (x1 + 1) [(1, .int (x1 + 1)), (0, .ref (r 0))] dX6_greedy_20 1 rfl rfl (by decide) rfl ?_
        refine g_goto X 2 dX6_greedy_23 (by decide) ?_
        refine g_sub X [1, 0] (ls' := [(0, .ref (r 0)), (1, .int (x1 + 1))]) rfl ?_
        exact ih _ _  h
      · replace h := gF c h
        refine g_iload_n X dX6_greedy_18 rfl 1 rfl ?_
        exact g_iretR X h dX6_greedy_19

set_option maxHeartbeats 4000000 in
set_option maxRecDepth 100000 in
theorem bX6_greedy_0 {l : Launch} {D : va_G} {cA : Nat → ClassId} {r : Nat → Nat} {G : gG} {xr : Int32} {v' : gV} (X : XM l D cA r RX6 cX6_greedy 2 (some .int) rmX6_greedy (some (.int xr)) v' G) (v : gV)  (h : fX6_greedy v  = some (xr, v')) : G v [(0, .ref (r 0))] 0 [] := by
  unfold fX6_greedy at h
  refine g_iconst X 0 dX6_greedy_0 (by decide) ?_
  refine g_istore_n X (ls' := [(1, .int 0), (0, .ref (r 0))]) dX6_greedy_1 rfl (by decide) rfl ?_
  refine g_sub X [1, 0] (ls' := [(0, .ref (r 0)), (1, .int 0)]) rfl ?_
  exact bX6_greedy_2 X  _ _ _  h

theorem mX6_greedy {l : Launch} {D : va_G} {cA : Nat → ClassId} {r : Nat → Nat} {v : gV}  {xr : Int32} {v' : gV} (h : fX6_greedy v  = some (xr, v')) : Ct l D (tysM cA) (shM cA r) 19 r (ZM r) yX6_greedy cX6_greedy 2 (some .int) rmX6_greedy [.ref (r 0)] v (some (.int xr)) v' := ct_of plX6 ZM_ok (Nat.le_of_ble_eq_true rfl) rfl (fun _ X => bX6_greedy_0 X v  h)

def rmX6_goesOn : Room := { frames := 6, cells := 0, slots := 0, locals := 132 }

set_option maxHeartbeats 4000000 in
set_option maxRecDepth 100000 in
theorem bX6_goesOn_41 {l : Launch} {D : va_G} {cA : Nat → ClassId} {r : Nat → Nat} {G : gG} {xr : Int32} {v' : gV} {k15 : gV → Int32 → Int32 → Int32 → Option (Int32 × gV)} (X : XM l D cA r RX6 cX6_goesOn 4 (some .int) rmX6_goesOn (some (.int xr)) v' G) (K15 : ∀ (v : gV) (x1 : Int32) (x2 : Int32) (x3 : Int32), k15 v x1 x2 x3 = some (xr, v') → G v [(0, .ref (r 0)), (1, .int x1), (2, .int x2), (3, .int x3)] 15 []) (v : gV) (x1 : Int32) (x2 : Int32) (s0 : Int32) (h : fX6_goesOn_41 k15 v x1 x2 s0 = some (xr, v')) : G v [(0, .ref (r 0)), (1, .int x1), (2, .int x2)] 41 [.int s0] := by
  unfold fX6_goesOn_41 at h
  refine g_istore_n X (ls' := [(3, .int s0), (0, .ref (r 0)), (1, .int x1), (2, .int x2)]) dX6_goesOn_41 rfl (by decide) rfl ?_
  refine g_goto X 15 dX6_goesOn_42 (by decide) ?_
  refine g_sub X [1, 2, 3, 0] (ls' := [(0, .ref (r 0)), (1, .int x1), (2, .int x2), (3, .int s0)]) rfl ?_
  exact K15 _ _ _ _  h

set_option maxHeartbeats 4000000 in
set_option maxRecDepth 100000 in
theorem bX6_goesOn_15 {l : Launch} {D : va_G} {cA : Nat → ClassId} {r : Nat → Nat} {G : gG} {xr : Int32} {v' : gV} (X : XM l D cA r RX6 cX6_goesOn 4 (some .int) rmX6_goesOn (some (.int xr)) v' G) : ∀ (n : Nat) (v : gV) (x1 : Int32) (x2 : Int32) (x3 : Int32), fX6_goesOn_15 n v x1 x2 x3 = some (xr, v') → G v [(0, .ref (r 0)), (1, .int x1), (2, .int x2), (3, .int x3)] 15 [] := by
  intro n
  induction n with
  | zero => intro v x1 x2 x3 h; rw [fX6_goesOn_15] at h; cases h
  | succ n ih =>
    intro v x1 x2 x3 h
    rw [fX6_goesOn_15] at h
    refine g_iload_n X dX6_goesOn_15 rfl 3 rfl ?_
    refine g_iconst X (-1) dX6_goesOn_16 (by decide) ?_
    refine g_icmp_eq X 45 dX6_goesOn_17 (by decide) (fun c => ?_) (fun c => ?_)
    · replace h := gTr c h
      refine g_iload_n X dX6_goesOn_45 rfl 2 rfl ?_
      exact g_iretR X h dX6_goesOn_46
    · replace h := gF c h
      refine g_aload_n X dX6_goesOn_20 rfl 0 rfl ?_
      refine g_iload_n X dX6_goesOn_21 rfl 3 rfl ?_
      obtain ⟨y4, v5, hc6, h⟩ := gB_inv h
      refine g_callV X (st := []) (st' := []) kcX6_goes kvX6_goes kl6_192 (⟨rfl, rfl, by decide, by decide⟩) (mX6_goes hc6) hNM_0 (shM_0 _) rfl rfl rfl (Nat.le_of_ble_eq_true rfl) rfl dX6_goesOn_22 ?_
      refine g_iinc X (x2 + 1) [(2, .int (x2 + 1)), (0, .ref (r 0)), (1, .int x1), (3, .int x3)] dX6_goesOn_25 2 rfl rfl (by decide) rfl ?_
      refine g_iload_n X dX6_goesOn_28 rfl 0 rfl ?_
      refine g_iload_n X dX6_goesOn_29 rfl 2 rfl ?_
      refine g_icmp_ge X 40 dX6_goesOn_30 (by decide) (fun c => ?_) (fun c => ?_)
      · replace h := gTr c h
        refine g_iconst X (-1) dX6_goesOn_40 (by decide) ?_
        refine g_sub X [1, 2, 0] (ls' := [(0, .ref (r 0)), (1, .int x1), (2, .int (x2 + 1))]) rfl ?_
        exact bX6_goesOn_41 X ih _ _ _ _  h
      · replace h := gF c h
        refine g_aload_n X dX6_goesOn_33 rfl 1 rfl ?_
        obtain ⟨y7, v8, hc9, h⟩ := gB_inv h
        refine g_callV X (st := []) (st' := [.int y7]) kcX6_greedy kvX6_greedy kl6_195 (⟨rfl, rfl, by decide, by decide⟩) (mX6_greedy hc9) hNM_0 (shM_0 _) rfl rfl rfl (Nat.le_of_ble_eq_true rfl) rfl dX6_goesOn_34 ?_
        refine g_goto X 41 dX6_goesOn_37 (by decide) ?_
        refine g_sub X [1, 2, 0] (ls' := [(0, .ref (r 0)), (1, .int x1), (2, .int (x2 + 1))]) rfl ?_
        exact bX6_goesOn_41 X ih _ _ _ _  h

set_option maxHeartbeats 4000000 in
set_option maxRecDepth 100000 in
theorem bX6_goesOn_14 {l : Launch} {D : va_G} {cA : Nat → ClassId} {r : Nat → Nat} {G : gG} {xr : Int32} {v' : gV} (X : XM l D cA r RX6 cX6_goesOn 4 (some .int) rmX6_goesOn (some (.int xr)) v' G) (v : gV) (x1 : Int32) (x2 : Int32) (s0 : Int32) (h : fX6_goesOn_14 v x1 x2 s0 = some (xr, v')) : G v [(0, .ref (r 0)), (1, .int x1), (2, .int x2)] 14 [.int s0] := by
  unfold fX6_goesOn_14 at h
  refine g_istore_n X (ls' := [(3, .int s0), (0, .ref (r 0)), (1, .int x1), (2, .int x2)]) dX6_goesOn_14 rfl (by decide) rfl ?_
  refine g_sub X [1, 2, 3, 0] (ls' := [(0, .ref (r 0)), (1, .int x1), (2, .int x2), (3, .int s0)]) rfl ?_
  exact bX6_goesOn_15 X  _ _ _ _ _  h

set_option maxHeartbeats 4000000 in
set_option maxRecDepth 100000 in
theorem bX6_goesOn_0 {l : Launch} {D : va_G} {cA : Nat → ClassId} {r : Nat → Nat} {G : gG} {xr : Int32} {v' : gV} (X : XM l D cA r RX6 cX6_goesOn 4 (some .int) rmX6_goesOn (some (.int xr)) v' G) (v : gV) (x1 : Int32) (h : fX6_goesOn v x1 = some (xr, v')) : G v [(0, .ref (r 0)), (1, .int x1)] 0 [] := by
  unfold fX6_goesOn at h
  refine g_iconst X 0 dX6_goesOn_0 (by decide) ?_
  refine g_istore_n X (ls' := [(2, .int 0), (0, .ref (r 0)), (1, .int x1)]) dX6_goesOn_1 rfl (by decide) rfl ?_
  refine g_iload_n X dX6_goesOn_2 rfl 2 rfl ?_
  refine g_if_le X 13 dX6_goesOn_3 (by decide) (fun c => ?_) (fun c => ?_)
  · replace h := gTr c h
    refine g_iconst X (-1) dX6_goesOn_13 (by decide) ?_
    refine g_sub X [1, 2, 0] (ls' := [(0, .ref (r 0)), (1, .int x1), (2, .int 0)]) rfl ?_
    exact bX6_goesOn_14 X  _ _ _ _  h
  · replace h := gF c h
    refine g_aload_n X dX6_goesOn_6 rfl 1 rfl ?_
    obtain ⟨y1, v2, hc3, h⟩ := gB_inv h
    refine g_callV X (st := []) (st' := [.int y1]) kcX6_greedy kvX6_greedy kl6_195 (⟨rfl, rfl, by decide, by decide⟩) (mX6_greedy hc3) hNM_0 (shM_0 _) rfl rfl rfl (Nat.le_of_ble_eq_true rfl) rfl dX6_goesOn_7 ?_
    refine g_goto X 14 dX6_goesOn_10 (by decide) ?_
    refine g_sub X [1, 2, 0] (ls' := [(0, .ref (r 0)), (1, .int x1), (2, .int 0)]) rfl ?_
    exact bX6_goesOn_14 X  _ _ _ _  h

theorem mX6_goesOn {l : Launch} {D : va_G} {cA : Nat → ClassId} {r : Nat → Nat} {v : gV} {x1 : Int32} {xr : Int32} {v' : gV} (h : fX6_goesOn v x1 = some (xr, v')) : Ct l D (tysM cA) (shM cA r) 19 r (ZM r) yX6_goesOn cX6_goesOn 4 (some .int) rmX6_goesOn [.ref (r 0), .int x1] v (some (.int xr)) v' := ct_of plX6 ZM_ok (Nat.le_of_ble_eq_true rfl) rfl (fun _ X => bX6_goesOn_0 X v x1 h)

def rmX6_keeps : Room := { frames := 0, cells := 0, slots := 0, locals := 0 }

set_option maxHeartbeats 4000000 in
set_option maxRecDepth 100000 in
theorem bX6_keeps_2 {l : Launch} {D : va_G} {cA : Nat → ClassId} {r : Nat → Nat} {G : gG} {xr : Unit} {v' : gV} (X : XM l D cA r RX6 cX6_keeps 3 none rmX6_keeps none v' G) : ∀ (n : Nat) (v : gV) (x1 : Int32) (x2 : Int32), fX6_keeps_2 n v x1 x2 = some (xr, v') → G v [(0, .ref (r 0)), (1, .int x1), (2, .int x2)] 2 [] := by
  intro n
  induction n with
  | zero => intro v x1 x2 h; rw [fX6_keeps_2] at h; cases h
  | succ n ih =>
    intro v x1 x2 h
    rw [fX6_keeps_2] at h
    refine g_iload_n X dX6_keeps_2 rfl 2 rfl ?_
    refine g_bipush X 7 dX6_keeps_3 (by decide) ?_
    refine g_icmp_ge X 31 dX6_keeps_5 (by decide) (fun c => ?_) (fun c => ?_)
    · replace h := gTr c h
      exact g_vretR X h dX6_keeps_31
    · replace h := gF c h
      refine g_aload_n X dX6_keeps_8 rfl 0 rfl ?_
      refine g_get X fl6_65 hNM_0 (shM_0 _) rfl dX6_keeps_9 ?_
      refine g_bipush X 7 dX6_keeps_12 (by decide) ?_
      refine g_iload_n X dX6_keeps_14 rfl 1 rfl ?_
      refine g_imul X dX6_keeps_15 ?_
      refine g_iload_n X dX6_keeps_16 rfl 2 rfl ?_
      refine g_iadd X dX6_keeps_17 ?_
      refine g_aload_n X dX6_keeps_18 rfl 0 rfl ?_
      refine g_get X fl6_7 hNM_0 (shM_0 _) rfl dX6_keeps_19 ?_
      refine g_iload_n X dX6_keeps_22 rfl 2 rfl ?_
      obtain ⟨c, h⟩ := gGd h
      refine g_iald X hNM_1 (shM_1 _) rfl (gin_in c) dX6_keeps_23 ?_
      obtain ⟨c, h⟩ := gGd h
      refine g_iast X hNM_18 (shM_18) rfl (gin_in c) dX6_keeps_24 ?_
      refine g_iinc X (x2 + 1) [(2, .int (x2 + 1)), (0, .ref (r 0)), (1, .int x1)] dX6_keeps_25 2 rfl rfl (by decide) rfl ?_
      refine g_goto X 2 dX6_keeps_28 (by decide) ?_
      refine g_sub X [1, 2, 0] (ls' := [(0, .ref (r 0)), (1, .int x1), (2, .int (x2 + 1))]) rfl ?_
      exact ih _ _ _  h

set_option maxHeartbeats 4000000 in
set_option maxRecDepth 100000 in
theorem bX6_keeps_0 {l : Launch} {D : va_G} {cA : Nat → ClassId} {r : Nat → Nat} {G : gG} {xr : Unit} {v' : gV} (X : XM l D cA r RX6 cX6_keeps 3 none rmX6_keeps none v' G) (v : gV) (x1 : Int32) (h : fX6_keeps v x1 = some (xr, v')) : G v [(0, .ref (r 0)), (1, .int x1)] 0 [] := by
  unfold fX6_keeps at h
  refine g_iconst X 0 dX6_keeps_0 (by decide) ?_
  refine g_istore_n X (ls' := [(2, .int 0), (0, .ref (r 0)), (1, .int x1)]) dX6_keeps_1 rfl (by decide) rfl ?_
  refine g_sub X [1, 2, 0] (ls' := [(0, .ref (r 0)), (1, .int x1), (2, .int 0)]) rfl ?_
  exact bX6_keeps_2 X  _ _ _ _  h

theorem mX6_keeps {l : Launch} {D : va_G} {cA : Nat → ClassId} {r : Nat → Nat} {v : gV} {x1 : Int32} {xr : Unit} {v' : gV} (h : fX6_keeps v x1 = some (xr, v')) : Ct l D (tysM cA) (shM cA r) 19 r (ZM r) yX6_keeps cX6_keeps 3 none rmX6_keeps [.ref (r 0), .int x1] v none v' := ct_of plX6 ZM_ok (Nat.le_of_ble_eq_true rfl) rfl (fun _ X => bX6_keeps_0 X v x1 h)

def rmX6_laysBack : Room := { frames := 0, cells := 0, slots := 0, locals := 0 }

set_option maxHeartbeats 4000000 in
set_option maxRecDepth 100000 in
theorem bX6_laysBack_2 {l : Launch} {D : va_G} {cA : Nat → ClassId} {r : Nat → Nat} {G : gG} {xr : Unit} {v' : gV} (X : XM l D cA r RX6 cX6_laysBack 3 none rmX6_laysBack none v' G) : ∀ (n : Nat) (v : gV) (x1 : Int32) (x2 : Int32), fX6_laysBack_2 n v x1 x2 = some (xr, v') → G v [(0, .ref (r 0)), (1, .int x1), (2, .int x2)] 2 [] := by
  intro n
  induction n with
  | zero => intro v x1 x2 h; rw [fX6_laysBack_2] at h; cases h
  | succ n ih =>
    intro v x1 x2 h
    rw [fX6_laysBack_2] at h
    refine g_iload_n X dX6_laysBack_2 rfl 2 rfl ?_
    refine g_bipush X 7 dX6_laysBack_3 (by decide) ?_
    refine g_icmp_ge X 31 dX6_laysBack_5 (by decide) (fun c => ?_) (fun c => ?_)
    · replace h := gTr c h
      exact g_vretR X h dX6_laysBack_31
    · replace h := gF c h
      refine g_aload_n X dX6_laysBack_8 rfl 0 rfl ?_
      refine g_get X fl6_7 hNM_0 (shM_0 _) rfl dX6_laysBack_9 ?_
      refine g_iload_n X dX6_laysBack_12 rfl 2 rfl ?_
      refine g_aload_n X dX6_laysBack_13 rfl 0 rfl ?_
      refine g_get X fl6_65 hNM_0 (shM_0 _) rfl dX6_laysBack_14 ?_
      refine g_bipush X 7 dX6_laysBack_17 (by decide) ?_
      refine g_iload_n X dX6_laysBack_19 rfl 1 rfl ?_
      refine g_imul X dX6_laysBack_20 ?_
      refine g_iload_n X dX6_laysBack_21 rfl 2 rfl ?_
      refine g_iadd X dX6_laysBack_22 ?_
      obtain ⟨c, h⟩ := gGd h
      refine g_iald X hNM_18 (shM_18 _) rfl (gin_in c) dX6_laysBack_23 ?_
      obtain ⟨c, h⟩ := gGd h
      refine g_iast X hNM_1 (shM_1) rfl (gin_in c) dX6_laysBack_24 ?_
      refine g_iinc X (x2 + 1) [(2, .int (x2 + 1)), (0, .ref (r 0)), (1, .int x1)] dX6_laysBack_25 2 rfl rfl (by decide) rfl ?_
      refine g_goto X 2 dX6_laysBack_28 (by decide) ?_
      refine g_sub X [1, 2, 0] (ls' := [(0, .ref (r 0)), (1, .int x1), (2, .int (x2 + 1))]) rfl ?_
      exact ih _ _ _  h

set_option maxHeartbeats 4000000 in
set_option maxRecDepth 100000 in
theorem bX6_laysBack_0 {l : Launch} {D : va_G} {cA : Nat → ClassId} {r : Nat → Nat} {G : gG} {xr : Unit} {v' : gV} (X : XM l D cA r RX6 cX6_laysBack 3 none rmX6_laysBack none v' G) (v : gV) (x1 : Int32) (h : fX6_laysBack v x1 = some (xr, v')) : G v [(0, .ref (r 0)), (1, .int x1)] 0 [] := by
  unfold fX6_laysBack at h
  refine g_iconst X 0 dX6_laysBack_0 (by decide) ?_
  refine g_istore_n X (ls' := [(2, .int 0), (0, .ref (r 0)), (1, .int x1)]) dX6_laysBack_1 rfl (by decide) rfl ?_
  refine g_sub X [1, 2, 0] (ls' := [(0, .ref (r 0)), (1, .int x1), (2, .int 0)]) rfl ?_
  exact bX6_laysBack_2 X  _ _ _ _  h

theorem mX6_laysBack {l : Launch} {D : va_G} {cA : Nat → ClassId} {r : Nat → Nat} {v : gV} {x1 : Int32} {xr : Unit} {v' : gV} (h : fX6_laysBack v x1 = some (xr, v')) : Ct l D (tysM cA) (shM cA r) 19 r (ZM r) yX6_laysBack cX6_laysBack 3 none rmX6_laysBack [.ref (r 0), .int x1] v none v' := ct_of plX6 ZM_ok (Nat.le_of_ble_eq_true rfl) rfl (fun _ X => bX6_laysBack_0 X v x1 h)

def rmX6_all : Room := { frames := 7, cells := 0, slots := 0, locals := 155 }

set_option maxHeartbeats 4000000 in
set_option maxRecDepth 100000 in
theorem bX6_all_71 {l : Launch} {D : va_G} {cA : Nat → ClassId} {r : Nat → Nat} {G : gG} {xr : Int32} {v' : gV} (X : XM l D cA r RX6 cX6_all 4 (some .int) rmX6_all (some (.int xr)) v' G) (v : gV) (s0 : Int32) (h : fX6_all_71 v s0 = some (xr, v')) : G v [(0, .ref (r 0))] 71 [.int s0] := by
  unfold fX6_all_71 at h
  refine g_istore_n X (ls' := [(3, .int s0), (0, .ref (r 0))]) dX6_all_71 rfl (by decide) rfl ?_
  refine g_aload_n X dX6_all_72 rfl 1 rfl ?_
  refine g_iconst X 0 dX6_all_73 (by decide) ?_
  obtain ⟨y10, v11, hc12, h⟩ := gB_inv h
  refine g_callV X (st := []) (st' := []) kcX6_laysBack kvX6_laysBack kl6_204 (⟨rfl, rfl, by decide, by decide⟩) (mX6_laysBack hc12) hNM_0 (shM_0 _) rfl rfl rfl (Nat.le_of_ble_eq_true rfl) rfl dX6_all_74 ?_
  refine g_iload_n X dX6_all_77 rfl 0 rfl ?_
  exact g_iretR X h dX6_all_78

set_option maxHeartbeats 4000000 in
set_option maxRecDepth 100000 in
theorem bX6_all_0 {l : Launch} {D : va_G} {cA : Nat → ClassId} {r : Nat → Nat} {G : gG} {xr : Int32} {v' : gV} (X : XM l D cA r RX6 cX6_all 4 (some .int) rmX6_all (some (.int xr)) v' G) (v : gV) (x1 : Int32) (h : fX6_all v x1 = some (xr, v')) : G v [(0, .ref (r 0)), (1, .int x1)] 0 [] := by
  unfold fX6_all at h
  refine g_iload_n X dX6_all_0 rfl 1 rfl ?_
  refine g_iconst X 0 dX6_all_1 (by decide) ?_
  refine g_bipush X 6 dX6_all_2 (by decide) ?_
  obtain ⟨y1, v2, hc3, h⟩ := gB_inv h
  refine g_callS X (st := []) (st' := [.int y1]) kcX6_in ktX6_in kl6_78 (⟨rfl, rfl, by decide, by decide⟩) (mX6_in hc3) rfl rfl (Nat.le_of_ble_eq_true rfl) rfl dX6_all_4 ?_
  refine g_if_ne X 13 dX6_all_7 (by decide) (fun c => ?_) (fun c => ?_)
  · replace h := gF c h
    refine g_aload_n X dX6_all_13 rfl 0 rfl ?_
    refine g_iconst X 0 dX6_all_14 (by decide) ?_
    obtain ⟨y4, v5, hc6, h⟩ := gB_inv h
    refine g_callV X (st := []) (st' := []) kcX6_keeps kvX6_keeps kl6_198 (⟨rfl, rfl, by decide, by decide⟩) (mX6_keeps hc6) hNM_0 (shM_0 _) rfl rfl rfl (Nat.le_of_ble_eq_true rfl) rfl dX6_all_15 ?_
    refine g_aload_n X dX6_all_18 rfl 0 rfl ?_
    refine g_sipush X 200 dX6_all_19 (by decide) ?_
    obtain ⟨y7, v8, hc9, h⟩ := gB_inv h
    refine g_callV X (st := []) (st' := [.int y7]) kcX6_goesOn kvX6_goesOn kl6_201 (⟨rfl, rfl, by decide, by decide⟩) (mX6_goesOn hc9) hNM_0 (shM_0 _) rfl rfl rfl (Nat.le_of_ble_eq_true rfl) rfl dX6_all_22 ?_
    refine g_istore_n X (ls' := [(2, .int y7), (0, .ref (r 0)), (1, .int x1)]) dX6_all_25 rfl (by decide) rfl ?_
    refine g_iload_n X dX6_all_26 rfl 2 rfl ?_
    refine g_if_ne X 39 dX6_all_27 (by decide) (fun c => ?_) (fun c => ?_)
    · replace h := gF c h
      refine g_iload_n X dX6_all_39 rfl 2 rfl ?_
      refine g_iconst X 1 dX6_all_40 (by decide) ?_
      refine g_icmp_ne X 48 dX6_all_41 (by decide) (fun c => ?_) (fun c => ?_)
      · replace h := gF c h
        refine g_iload_n X dX6_all_48 rfl 2 rfl ?_
        refine g_bipush X 6 dX6_all_49 (by decide) ?_
        refine g_icmp_ne X 63 dX6_all_51 (by decide) (fun c => ?_) (fun c => ?_)
        · replace h := gF c h
          refine g_aload_n X dX6_all_63 rfl 1 rfl ?_
          refine g_get X fl6_7 hNM_0 (shM_0 _) rfl dX6_all_64 ?_
          refine g_iload_n X dX6_all_67 rfl 2 rfl ?_
          refine g_iconst X 2 dX6_all_68 (by decide) ?_
          refine g_isub X dX6_all_69 ?_
          obtain ⟨c, h⟩ := gGd h
          refine g_iald X hNM_1 (shM_1 _) rfl (gin_in c) dX6_all_70 ?_
          refine g_sub X [1] (ls' := [(0, .ref (r 0))]) rfl ?_
          exact bX6_all_71 X  _ _  h
        · replace h := gTr c h
          refine g_aload_n X dX6_all_54 rfl 1 rfl ?_
          refine g_get X fl6_7 hNM_0 (shM_0 _) rfl dX6_all_55 ?_
          refine g_iconst X 4 dX6_all_58 (by decide) ?_
          refine g_ialdK X 4 hNM_1 (shM_1 _) rfl vin_4_7 dX6_all_59 ?_
          refine g_goto X 71 dX6_all_60 (by decide) ?_
          refine g_sub X [1] (ls' := [(0, .ref (r 0))]) rfl ?_
          exact bX6_all_71 X  _ _  h
      · replace h := gTr c h
        refine g_iload_n X dX6_all_44 rfl 0 rfl ?_
        refine g_goto X 71 dX6_all_45 (by decide) ?_
        refine g_sub X [1] (ls' := [(0, .ref (r 0))]) rfl ?_
        exact bX6_all_71 X  _ _  h
    · replace h := gTr c h
      refine g_aload_n X dX6_all_30 rfl 1 rfl ?_
      refine g_get X fl6_7 hNM_0 (shM_0 _) rfl dX6_all_31 ?_
      refine g_iconst X 5 dX6_all_34 (by decide) ?_
      refine g_ialdK X 5 hNM_1 (shM_1 _) rfl vin_5_7 dX6_all_35 ?_
      refine g_goto X 71 dX6_all_36 (by decide) ?_
      refine g_sub X [1] (ls' := [(0, .ref (r 0))]) rfl ?_
      exact bX6_all_71 X  _ _  h
  · replace h := gTr c h
    refine g_bipush X (-2) dX6_all_10 (by decide) ?_
    exact g_iretR X h dX6_all_12

theorem mX6_all {l : Launch} {D : va_G} {cA : Nat → ClassId} {r : Nat → Nat} {v : gV} {x1 : Int32} {xr : Int32} {v' : gV} (h : fX6_all v x1 = some (xr, v')) : Ct l D (tysM cA) (shM cA r) 19 r (ZM r) yX6_all cX6_all 4 (some .int) rmX6_all [.ref (r 0), .int x1] v (some (.int xr)) v' := ct_of plX6 ZM_ok (Nat.le_of_ble_eq_true rfl) rfl (fun _ X => bX6_all_0 X v x1 h)

def rmX6_go : Room := { frames := 7, cells := 0, slots := 0, locals := 155 }

set_option maxHeartbeats 4000000 in
set_option maxRecDepth 100000 in
theorem bX6_go_0 {l : Launch} {D : va_G} {cA : Nat → ClassId} {r : Nat → Nat} {G : gG} {xr : Int32} {v' : gV} (X : XM l D cA r RX6 cX6_go 2 (some .int) rmX6_go (some (.int xr)) v' G) (v : gV) (x1 : Int32) (h : fX6_go v x1 = some (xr, v')) : G v [(0, .ref (r 0)), (1, .int x1)] 0 [] := by
  unfold fX6_go at h
  refine g_iload_n X dX6_go_0 rfl 1 rfl ?_
  refine g_iconst X 0 dX6_go_1 (by decide) ?_
  refine g_sipush X 200 dX6_go_2 (by decide) ?_
  obtain ⟨y1, v2, hc3, h⟩ := gB_inv h
  refine g_callS X (st := []) (st' := [.int y1]) kcX6_in ktX6_in kl6_78 (⟨rfl, rfl, by decide, by decide⟩) (mX6_in hc3) rfl rfl (Nat.le_of_ble_eq_true rfl) rfl dX6_go_5 ?_
  refine g_if_eq X 19 dX6_go_8 (by decide) (fun c => ?_) (fun c => ?_)
  · replace h := gTr c h
    refine g_bipush X (-2) dX6_go_19 (by decide) ?_
    exact g_iretR X h dX6_go_21
  · replace h := gF c h
    refine g_aload_n X dX6_go_11 rfl 0 rfl ?_
    refine g_iload_n X dX6_go_12 rfl 1 rfl ?_
    obtain ⟨y4, v5, hc6, h⟩ := gB_inv h
    refine g_callV X (st := []) (st' := [.int y4]) kcX6_goesOn kvX6_goesOn kl6_201 (⟨rfl, rfl, by decide, by decide⟩) (mX6_goesOn hc6) hNM_0 (shM_0 _) rfl rfl rfl (Nat.le_of_ble_eq_true rfl) rfl dX6_go_13 ?_
    refine g_goto X 21 dX6_go_16 (by decide) ?_
    exact g_iretR X h dX6_go_21

theorem mX6_go {l : Launch} {D : va_G} {cA : Nat → ClassId} {r : Nat → Nat} {v : gV} {x1 : Int32} {xr : Int32} {v' : gV} (h : fX6_go v x1 = some (xr, v')) : Ct l D (tysM cA) (shM cA r) 19 r (ZM r) yX6_go cX6_go 2 (some .int) rmX6_go [.ref (r 0), .int x1] v (some (.int xr)) v' := ct_of plX6 ZM_ok (Nat.le_of_ble_eq_true rfl) rfl (fun _ X => bX6_go_0 X v x1 h)

def rmX6_next_ : Room := { frames := 7, cells := 0, slots := 0, locals := 155 }

set_option maxHeartbeats 4000000 in
set_option maxRecDepth 100000 in
theorem bX6_next__36 {l : Launch} {D : va_G} {cA : Nat → ClassId} {r : Nat → Nat} {G : gG} {xr : Int32} {v' : gV} (X : XM l D cA r RX6 cX6_next_ 3 (some .int) rmX6_next_ (some (.int xr)) v' G) (v : gV) (s0 : Int32) (h : fX6_next__36 v s0 = some (xr, v')) : G v [(0, .ref (r 0))] 36 [.int s0] := by
  unfold fX6_next__36 at h
  refine g_istore_n X (ls' := [(2, .int s0), (0, .ref (r 0))]) dX6_next__36 rfl (by decide) rfl ?_
  refine g_aload_n X dX6_next__37 rfl 1 rfl ?_
  refine g_iconst X 0 dX6_next__38 (by decide) ?_
  obtain ⟨y13, v14, hc15, h⟩ := gB_inv h
  refine g_callV X (st := []) (st' := []) kcX6_laysBack kvX6_laysBack kl6_204 (⟨rfl, rfl, by decide, by decide⟩) (mX6_laysBack hc15) hNM_0 (shM_0 _) rfl rfl rfl (Nat.le_of_ble_eq_true rfl) rfl dX6_next__39 ?_
  refine g_iload_n X dX6_next__42 rfl 0 rfl ?_
  exact g_iretR X h dX6_next__43

set_option maxHeartbeats 4000000 in
set_option maxRecDepth 100000 in
theorem bX6_next__0 {l : Launch} {D : va_G} {cA : Nat → ClassId} {r : Nat → Nat} {G : gG} {xr : Int32} {v' : gV} (X : XM l D cA r RX6 cX6_next_ 3 (some .int) rmX6_next_ (some (.int xr)) v' G) (v : gV) (x1 : Int32) (h : fX6_next_ v x1 = some (xr, v')) : G v [(0, .ref (r 0)), (1, .int x1)] 0 [] := by
  unfold fX6_next_ at h
  refine g_iload_n X dX6_next__0 rfl 1 rfl ?_
  refine g_iconst X 0 dX6_next__1 (by decide) ?_
  refine g_sipush X 199 dX6_next__2 (by decide) ?_
  obtain ⟨y1, v2, hc3, h⟩ := gB_inv h
  refine g_callS X (st := []) (st' := [.int y1]) kcX6_in ktX6_in kl6_78 (⟨rfl, rfl, by decide, by decide⟩) (mX6_in hc3) rfl rfl (Nat.le_of_ble_eq_true rfl) rfl dX6_next__5 ?_
  refine g_if_ne X 14 dX6_next__8 (by decide) (fun c => ?_) (fun c => ?_)
  · replace h := gF c h
    refine g_aload_n X dX6_next__14 rfl 0 rfl ?_
    refine g_iconst X 0 dX6_next__15 (by decide) ?_
    obtain ⟨y4, v5, hc6, h⟩ := gB_inv h
    refine g_callV X (st := []) (st' := []) kcX6_keeps kvX6_keeps kl6_198 (⟨rfl, rfl, by decide, by decide⟩) (mX6_keeps hc6) hNM_0 (shM_0 _) rfl rfl rfl (Nat.le_of_ble_eq_true rfl) rfl dX6_next__16 ?_
    refine g_aload_n X dX6_next__19 rfl 0 rfl ?_
    refine g_iload_n X dX6_next__20 rfl 1 rfl ?_
    obtain ⟨y7, v8, hc9, h⟩ := gB_inv h
    refine g_callV X (st := []) (st' := [.int y7]) kcX6_goesOn kvX6_goesOn kl6_201 (⟨rfl, rfl, by decide, by decide⟩) (mX6_goesOn hc9) hNM_0 (shM_0 _) rfl rfl rfl (Nat.le_of_ble_eq_true rfl) rfl dX6_next__21 ?_
    refine g_iload_n X dX6_next__24 rfl 1 rfl ?_
    refine g_icmp_ne X 35 dX6_next__25 (by decide) (fun c => ?_) (fun c => ?_)
    · replace h := gF c h
      refine g_iconst X (-1) dX6_next__35 (by decide) ?_
      refine g_sub X [0] (ls' := [(0, .ref (r 0))]) rfl ?_
      exact bX6_next__36 X  _ _  h
    · replace h := gTr c h
      refine g_aload_n X dX6_next__28 rfl 0 rfl ?_
      obtain ⟨y10, v11, hc12, h⟩ := gB_inv h
      refine g_callV X (st := []) (st' := [.int y10]) kcX6_greedy kvX6_greedy kl6_195 (⟨rfl, rfl, by decide, by decide⟩) (mX6_greedy hc12) hNM_0 (shM_0 _) rfl rfl rfl (Nat.le_of_ble_eq_true rfl) rfl dX6_next__29 ?_
      refine g_goto X 36 dX6_next__32 (by decide) ?_
      refine g_sub X [0] (ls' := [(0, .ref (r 0))]) rfl ?_
      exact bX6_next__36 X  _ _  h
  · replace h := gTr c h
    refine g_bipush X (-2) dX6_next__11 (by decide) ?_
    exact g_iretR X h dX6_next__13

theorem mX6_next_ {l : Launch} {D : va_G} {cA : Nat → ClassId} {r : Nat → Nat} {v : gV} {x1 : Int32} {xr : Int32} {v' : gV} (h : fX6_next_ v x1 = some (xr, v')) : Ct l D (tysM cA) (shM cA r) 19 r (ZM r) yX6_next_ cX6_next_ 3 (some .int) rmX6_next_ [.ref (r 0), .int x1] v (some (.int xr)) v' := ct_of plX6 ZM_ok (Nat.le_of_ble_eq_true rfl) rfl (fun _ X => bX6_next__0 X v x1 h)

def HX6_rw (l : Launch) (D : va_G) (cA : Nat → ClassId) (r : Nat → Nat) (rmP : Room) (R : Nat → gV → Int32 → Int32 → Int32 → Int32 → Option (Unit × gV)) : Prop :=
  (∀ (v : gV) (x1 : Int32) (x2 : Int32) (x3 : Int32) (x4 : Int32) (xr : Unit) (v' : gV), R 0 v x1 x2 x3 x4 = some (xr, v') → Ct l D (tysM cA) (shM cA r) 19 r (ZM r) yX6_rows cX6_rows 7 none rmP [.ref (r 0), .int x1, .int x2, .int x3, .int x4] v none v')

set_option maxHeartbeats 4000000 in
set_option maxRecDepth 100000 in
theorem bX6_rows_100 {l : Launch} {D : va_G} {cA : Nat → ClassId} {r : Nat → Nat} {G : gG} {xr : Unit} {v' : gV} {R : Nat → gV → Int32 → Int32 → Int32 → Int32 → Option (Unit × gV)} {rmP rm : Room} {k33 : gV → Int32 → Int32 → Int32 → Int32 → Int32 → Option (Unit × gV)} (X : XM l D cA r RX6 cX6_rows 7 none rm none v' G) (HR : HX6_rw l D cA r rmP R) (hrm : ∀ k, k ≤ 20 → gRm rm rmP k) (hbig : gBig rm) (K33 : ∀ (v : gV) (x1 : Int32) (x2 : Int32) (x3 : Int32) (x4 : Int32) (x5 : Int32), k33 v x1 x2 x3 x4 x5 = some (xr, v') → G v [(0, .ref (r 0)), (1, .int x1), (2, .int x2), (3, .int x3), (4, .int x4), (5, .int x5)] 33 []) (v : gV) (x1 : Int32) (x2 : Int32) (x3 : Int32) (x4 : Int32) (x5 : Int32) (h : fX6_rows_100 R k33 v x1 x2 x3 x4 x5 = some (xr, v')) : G v [(0, .ref (r 0)), (1, .int x1), (2, .int x2), (3, .int x3), (4, .int x4), (5, .int x5)] 100 [] := by
  unfold fX6_rows_100 at h
  refine g_iinc X (x5 + 1) [(5, .int (x5 + 1)), (0, .ref (r 0)), (1, .int x1), (2, .int x2), (3, .int x3), (4, .int x4)] dX6_rows_100 5 rfl rfl (by decide) rfl ?_
  refine g_goto X 33 dX6_rows_103 (by decide) ?_
  refine g_sub X [1, 2, 3, 4, 5, 0] (ls' := [(0, .ref (r 0)), (1, .int x1), (2, .int x2), (3, .int x3), (4, .int x4), (5, .int (x5 + 1))]) rfl ?_
  exact K33 _ _ _ _ _ _  h

set_option maxHeartbeats 4000000 in
set_option maxRecDepth 100000 in
theorem bX6_rows_65 {l : Launch} {D : va_G} {cA : Nat → ClassId} {r : Nat → Nat} {G : gG} {xr : Unit} {v' : gV} {R : Nat → gV → Int32 → Int32 → Int32 → Int32 → Option (Unit × gV)} {rmP rm : Room} {k33 : gV → Int32 → Int32 → Int32 → Int32 → Int32 → Option (Unit × gV)} (X : XM l D cA r RX6 cX6_rows 7 none rm none v' G) (HR : HX6_rw l D cA r rmP R) (hrm : ∀ k, k ≤ 20 → gRm rm rmP k) (hbig : gBig rm) (K33 : ∀ (v : gV) (x1 : Int32) (x2 : Int32) (x3 : Int32) (x4 : Int32) (x5 : Int32), k33 v x1 x2 x3 x4 x5 = some (xr, v') → G v [(0, .ref (r 0)), (1, .int x1), (2, .int x2), (3, .int x3), (4, .int x4), (5, .int x5)] 33 []) (v : gV) (x1 : Int32) (x2 : Int32) (x3 : Int32) (x4 : Int32) (x5 : Int32) (s0 : Int32) (h : fX6_rows_65 R k33 v x1 x2 x3 x4 x5 s0 = some (xr, v')) : G v [(0, .ref (r 0)), (1, .int x1), (2, .int x2), (3, .int x3), (4, .int x4), (5, .int x5)] 65 [.int s0] := by
  unfold fX6_rows_65 at h
  refine g_istore X (ls' := [(6, .int s0), (0, .ref (r 0)), (1, .int x1), (2, .int x2), (3, .int x3), (4, .int x4), (5, .int x5)]) dX6_rows_65 (by decide) rfl ?_
  refine g_aload_n X dX6_rows_67 rfl 1 rfl ?_
  refine g_iload X dX6_rows_68 6 rfl ?_
  obtain ⟨y10, v11, hc12, h⟩ := gB_inv h
  refine g_callV X (st := []) (st' := []) kcX6_goes kvX6_goes kl6_192 (gRm_big hbig (by decide)) (mX6_goes hc12) hNM_0 (shM_0 _) rfl rfl rfl (Nat.le_of_ble_eq_true rfl) rfl dX6_rows_70 ?_
  refine g_aload_n X dX6_rows_73 rfl 1 rfl ?_
  refine g_iload_n X dX6_rows_74 rfl 2 rfl ?_
  refine g_iconst X 1 dX6_rows_75 (by decide) ?_
  refine g_iadd X dX6_rows_76 ?_
  refine g_iload_n X dX6_rows_77 rfl 3 rfl ?_
  refine g_iload_n X dX6_rows_78 rfl 4 rfl ?_
  refine g_iload X dX6_rows_79 0 rfl ?_
  refine g_iadd X dX6_rows_81 ?_
  refine g_bipush X 10 dX6_rows_82 (by decide) ?_
  refine g_iload X dX6_rows_84 5 rfl ?_
  refine g_imul X dX6_rows_86 ?_
  refine g_iload X dX6_rows_87 6 rfl ?_
  refine g_iadd X dX6_rows_89 ?_
  refine g_iconst X 1 dX6_rows_90 (by decide) ?_
  refine g_iadd X dX6_rows_91 ?_
  obtain ⟨y13, v14, hc15, h⟩ := gB_inv h
  refine g_callV X (st := []) (st' := []) kcX6_rows kvX6_rows kl6_213 (hrm _ (by decide)) (HR _ _ _ _ _ _ _ hc15) hNM_0 (shM_0 _) rfl rfl rfl (Nat.le_of_ble_eq_true rfl) rfl dX6_rows_92 ?_
  refine g_aload_n X dX6_rows_95 rfl 1 rfl ?_
  refine g_iload_n X dX6_rows_96 rfl 2 rfl ?_
  obtain ⟨y16, v17, hc18, h⟩ := gB_inv h
  refine g_callV X (st := []) (st' := []) kcX6_laysBack kvX6_laysBack kl6_204 (gRm_big hbig (by decide)) (mX6_laysBack hc18) hNM_0 (shM_0 _) rfl rfl rfl (Nat.le_of_ble_eq_true rfl) rfl dX6_rows_97 ?_
  refine g_sub X [1, 2, 3, 4, 5, 6] (ls' := [(0, .ref (r 0)), (1, .int x1), (2, .int x2), (3, .int x3), (4, .int x4), (5, .int x5)]) rfl ?_
  exact bX6_rows_100 X HR hrm hbig K33 _ _ _ _ _ _  h

set_option maxHeartbeats 4000000 in
set_option maxRecDepth 100000 in
theorem bX6_rows_33 {l : Launch} {D : va_G} {cA : Nat → ClassId} {r : Nat → Nat} {G : gG} {xr : Unit} {v' : gV} {R : Nat → gV → Int32 → Int32 → Int32 → Int32 → Option (Unit × gV)} {rmP rm : Room} (X : XM l D cA r RX6 cX6_rows 7 none rm none v' G) (HR : HX6_rw l D cA r rmP R) (hrm : ∀ k, k ≤ 20 → gRm rm rmP k) (hbig : gBig rm) : ∀ (n : Nat) (v : gV) (x1 : Int32) (x2 : Int32) (x3 : Int32) (x4 : Int32) (x5 : Int32), fX6_rows_33 R n v x1 x2 x3 x4 x5 = some (xr, v') → G v [(0, .ref (r 0)), (1, .int x1), (2, .int x2), (3, .int x3), (4, .int x4), (5, .int x5)] 33 [] := by
  intro n
  induction n with
  | zero => intro v x1 x2 x3 x4 x5 h; rw [fX6_rows_33] at h; cases h
  | succ n ih =>
    intro v x1 x2 x3 x4 x5 h
    rw [fX6_rows_33] at h
    refine g_iload X dX6_rows_33 5 rfl ?_
    refine g_aload_n X dX6_rows_35 rfl 0 rfl ?_
    refine g_get X fl6_75 hNM_0 (shM_0 _) rfl dX6_rows_36 ?_
    refine g_icmp_gt X 106 dX6_rows_39 (by decide) (fun c => ?_) (fun c => ?_)
    · replace h := gTr c h
      exact g_vretR X h dX6_rows_106
    · replace h := gF c h
      refine g_aload_n X dX6_rows_42 rfl 0 rfl ?_
      refine g_iload X dX6_rows_43 5 rfl ?_
      obtain ⟨y4, v5, hc6, h⟩ := gB_inv h
      refine g_callV X (st := []) (st' := [.int y4]) kcX6_canMove kvX6_canMove kl6_189 (gRm_big hbig (by decide)) (mX6_canMove hc6) hNM_0 (shM_0 _) rfl rfl rfl (Nat.le_of_ble_eq_true rfl) rfl dX6_rows_45 ?_
      refine g_if_eq X 100 dX6_rows_48 (by decide) (fun c => ?_) (fun c => ?_)
      · replace h := gTr c h
        exact bX6_rows_100 X HR hrm hbig ih _ _ _ _ _ _  h
      · replace h := gF c h
        refine g_iload X dX6_rows_51 5 rfl ?_
        refine g_if_ne X 64 dX6_rows_53 (by decide) (fun c => ?_) (fun c => ?_)
        · replace h := gF c h
          refine g_iconst X 0 dX6_rows_64 (by decide) ?_
          exact bX6_rows_65 X HR hrm hbig ih _ _ _ _ _ _ _  h
        · replace h := gTr c h
          refine g_aload_n X dX6_rows_56 rfl 0 rfl ?_
          refine g_iconst X 1 dX6_rows_57 (by decide) ?_
          obtain ⟨y7, v8, hc9, h⟩ := gB_inv h
          refine g_callV X (st := []) (st' := [.int y7]) kcX6_asksOf kvX6_asksOf kl6_158 (gRm_big hbig (by decide)) (mX6_asksOf hc9) hNM_0 (shM_0 _) rfl rfl rfl (Nat.le_of_ble_eq_true rfl) rfl dX6_rows_58 ?_
          refine g_goto X 65 dX6_rows_61 (by decide) ?_
          exact bX6_rows_65 X HR hrm hbig ih _ _ _ _ _ _ _  h

set_option maxHeartbeats 4000000 in
set_option maxRecDepth 100000 in
theorem bX6_rows_19 {l : Launch} {D : va_G} {cA : Nat → ClassId} {r : Nat → Nat} {G : gG} {xr : Unit} {v' : gV} {R : Nat → gV → Int32 → Int32 → Int32 → Int32 → Option (Unit × gV)} {rmP rm : Room} (X : XM l D cA r RX6 cX6_rows 7 none rm none v' G) (HR : HX6_rw l D cA r rmP R) (hrm : ∀ k, k ≤ 20 → gRm rm rmP k) (hbig : gBig rm) (v : gV) (x1 : Int32) (x2 : Int32) (x3 : Int32) (x4 : Int32) (h : fX6_rows_19 R v x1 x2 x3 x4 = some (xr, v')) : G v [(0, .ref (r 0)), (1, .int x1), (2, .int x2), (3, .int x3), (4, .int x4)] 19 [] := by
  unfold fX6_rows_19 at h
  refine g_iload_n X dX6_rows_19 rfl 1 rfl ?_
  refine g_iload_n X dX6_rows_20 rfl 2 rfl ?_
  refine g_icmp_ne X 25 dX6_rows_21 (by decide) (fun c => ?_) (fun c => ?_)
  · replace h := gF c h
    refine g_aload_n X dX6_rows_25 rfl 0 rfl ?_
    refine g_iload_n X dX6_rows_26 rfl 1 rfl ?_
    obtain ⟨y1, v2, hc3, h⟩ := gB_inv h
    refine g_callV X (st := []) (st' := []) kcX6_keeps kvX6_keeps kl6_198 (gRm_big hbig (by decide)) (mX6_keeps hc3) hNM_0 (shM_0 _) rfl rfl rfl (Nat.le_of_ble_eq_true rfl) rfl dX6_rows_27 ?_
    refine g_iconst X 0 dX6_rows_30 (by decide) ?_
    refine g_istore X (ls' := [(5, .int 0), (0, .ref (r 0)), (1, .int x1), (2, .int x2), (3, .int x3), (4, .int x4)]) dX6_rows_31 (by decide) rfl ?_
    refine g_sub X [1, 2, 3, 4, 5, 0] (ls' := [(0, .ref (r 0)), (1, .int x1), (2, .int x2), (3, .int x3), (4, .int x4), (5, .int 0)]) rfl ?_
    exact bX6_rows_33 X HR hrm hbig  _ _ _ _ _ _ _  h
  · replace h := gTr c h
    exact g_vretR X h dX6_rows_24

set_option maxHeartbeats 4000000 in
set_option maxRecDepth 100000 in
theorem bX6_rows_0 {l : Launch} {D : va_G} {cA : Nat → ClassId} {r : Nat → Nat} {G : gG} {xr : Unit} {v' : gV} {R : Nat → gV → Int32 → Int32 → Int32 → Int32 → Option (Unit × gV)} {rmP rm : Room} (X : XM l D cA r RX6 cX6_rows 7 none rm none v' G) (HR : HX6_rw l D cA r rmP R) (hrm : ∀ k, k ≤ 20 → gRm rm rmP k) (hbig : gBig rm) (v : gV) (x1 : Int32) (x2 : Int32) (x3 : Int32) (x4 : Int32) (h : fX6_rows R v x1 x2 x3 x4 = some (xr, v')) : G v [(0, .ref (r 0)), (1, .int x1), (2, .int x2), (3, .int x3), (4, .int x4)] 0 [] := by
  unfold fX6_rows at h
  refine g_iload_n X dX6_rows_0 rfl 3 rfl ?_
  refine g_aload_n X dX6_rows_1 rfl 0 rfl ?_
  refine g_get X fl6_207 hNM_0 (shM_0 _) rfl dX6_rows_2 ?_
  refine g_icmp_le X 19 dX6_rows_5 (by decide) (fun c => ?_) (fun c => ?_)
  · replace h := gTr c h
    exact bX6_rows_19 X HR hrm hbig  _ _ _ _ _  h
  · replace h := gF c h
    refine g_aload_n X dX6_rows_8 rfl 0 rfl ?_
    refine g_iload_n X dX6_rows_9 rfl 3 rfl ?_
    refine g_put X (fsM6 r) fp6_207 hNM_0 (shM_0) (fun _ => rfl) (Nat.le_of_ble_eq_true rfl) dX6_rows_10 ?_
    refine g_aload_n X dX6_rows_13 rfl 0 rfl ?_
    refine g_iload X dX6_rows_14 4 rfl ?_
    refine g_put X (fsM6 r) fp6_210 hNM_0 (shM_0) (fun _ => rfl) (Nat.le_of_ble_eq_true rfl) dX6_rows_16 ?_
    exact bX6_rows_19 X HR hrm hbig  _ _ _ _ _  h

theorem moX6_rows {l : Launch} {D : va_G} {cA : Nat → ClassId} {r : Nat → Nat} {v : gV} {x1 : Int32} {x2 : Int32} {x3 : Int32} {x4 : Int32} {xr : Unit} {v' : gV} {R : Nat → gV → Int32 → Int32 → Int32 → Int32 → Option (Unit × gV)} {rmP rm : Room} (HR : HX6_rw l D cA r rmP R) (hrm : ∀ k, k ≤ 20 → gRm rm rmP k) (hbig : gBig rm) (h : fX6_rows R v x1 x2 x3 x4 = some (xr, v')) : Ct l D (tysM cA) (shM cA r) 19 r (ZM r) yX6_rows cX6_rows 7 none rm [.ref (r 0), .int x1, .int x2, .int x3, .int x4] v none v' := ct_of plX6 ZM_ok (Nat.le_of_ble_eq_true rfl) rfl (fun _ X => bX6_rows_0 X HR hrm hbig v x1 x2 x3 x4 h)

def rmX6_rwN (n : Nat) : Room := { frames := n + 20, cells := 0, slots := 0, locals := 60 * n + 600 }
theorem rmX6_rw_1 (n k : Nat) (h : k ≤ 20) : gRm (rmX6_rwN (n + 1)) (rmX6_rwN n) k := ⟨rfl, rfl, by show n + 20 + 1 ≤ n + 1 + 20; omega, by show 8 + (k + 11) + (60 * n + 600) ≤ 60 * (n + 1) + 600; omega⟩
theorem rmX6_rw_2 (n : Nat) : gBig (rmX6_rwN n) := ⟨by show 20 ≤ n + 20; omega, by show 600 ≤ 60 * n + 600; omega⟩
theorem hX6_rw {l : Launch} {D : va_G} {cA : Nat → ClassId} {r : Nat → Nat} : ∀ n : Nat, HX6_rw l D cA r (rmX6_rwN n) (fX6_rw n) := by
  intro n
  induction n with
  | zero =>
    refine ?_
    · intro v x1 x2 x3 x4 xr v' h
      rw [fX6_rw] at h
      cases h
  | succ n ih =>
    refine ?_
    · intro v x1 x2 x3 x4 xr v' h
      rw [fX6_rw] at h
      exact moX6_rows ih (rmX6_rw_1 n) (rmX6_rw_2 (n + 1)) h
def rmX6_rows : Room := { frames := 28, cells := 0, slots := 0, locals := 1080 }
theorem mX6_rows {l : Launch} {D : va_G} {cA : Nat → ClassId} {r : Nat → Nat} {v : gV} {x1 : Int32} {x2 : Int32} {x3 : Int32} {x4 : Int32} {xr : Unit} {v' : gV} (h : fX6_rw 8 0 v x1 x2 x3 x4 = some (xr, v')) : Ct l D (tysM cA) (shM cA r) 19 r (ZM r) yX6_rows cX6_rows 7 none rmX6_rows [.ref (r 0), .int x1, .int x2, .int x3, .int x4] v none v' := (hX6_rw 8) v x1 x2 x3 x4 xr v' h

def rmX6_best : Room := { frames := 29, cells := 0, slots := 0, locals := 1106 }

set_option maxHeartbeats 4000000 in
set_option maxRecDepth 100000 in
theorem bX6_best_0 {l : Launch} {D : va_G} {cA : Nat → ClassId} {r : Nat → Nat} {G : gG} {xr : Int32} {v' : gV} (X : XM l D cA r RX6 cX6_best 3 (some .int) rmX6_best (some (.int xr)) v' G) (v : gV) (x1 : Int32) (x2 : Int32) (h : fX6_best v x1 x2 = some (xr, v')) : G v [(0, .ref (r 0)), (1, .int x1), (2, .int x2)] 0 [] := by
  unfold fX6_best at h
  refine g_iload_n X dX6_best_0 rfl 1 rfl ?_
  refine g_iconst X 0 dX6_best_1 (by decide) ?_
  refine g_bipush X 6 dX6_best_2 (by decide) ?_
  obtain ⟨y1, v2, hc3, h⟩ := gB_inv h
  refine g_callS X (st := []) (st' := [.int y1]) kcX6_in ktX6_in kl6_78 (⟨rfl, rfl, by decide, by decide⟩) (mX6_in hc3) rfl rfl (Nat.le_of_ble_eq_true rfl) rfl dX6_best_4 ?_
  refine g_if_eq X 19 dX6_best_7 (by decide) (fun c => ?_) (fun c => ?_)
  · replace h := gTr c h
    refine g_bipush X (-2) dX6_best_19 (by decide) ?_
    exact g_iretR X h dX6_best_21
  · replace h := gF c h
    refine g_iload_n X dX6_best_10 rfl 2 rfl ?_
    refine g_iconst X 0 dX6_best_11 (by decide) ?_
    refine g_iconst X 1 dX6_best_12 (by decide) ?_
    obtain ⟨y4, v5, hc6, h⟩ := gB_inv h
    refine g_callS X (st := []) (st' := [.int y4]) kcX6_in ktX6_in kl6_78 (⟨rfl, rfl, by decide, by decide⟩) (mX6_in hc6) rfl rfl (Nat.le_of_ble_eq_true rfl) rfl dX6_best_13 ?_
    refine g_if_ne X 22 dX6_best_16 (by decide) (fun c => ?_) (fun c => ?_)
    · replace h := gF c h
      refine g_aload_n X dX6_best_22 rfl 0 rfl ?_
      refine g_iconst X 0 dX6_best_23 (by decide) ?_
      refine g_put X (fsM6 r) fp6_207 hNM_0 (shM_0) (fun _ => rfl) (Nat.le_of_ble_eq_true rfl) dX6_best_24 ?_
      refine g_aload_n X dX6_best_27 rfl 0 rfl ?_
      refine g_iconst X 0 dX6_best_28 (by decide) ?_
      refine g_put X (fsM6 r) fp6_210 hNM_0 (shM_0) (fun _ => rfl) (Nat.le_of_ble_eq_true rfl) dX6_best_29 ?_
      refine g_aload_n X dX6_best_32 rfl 0 rfl ?_
      refine g_iconst X 0 dX6_best_33 (by decide) ?_
      refine g_iload_n X dX6_best_34 rfl 1 rfl ?_
      refine g_iconst X 0 dX6_best_35 (by decide) ?_
      refine g_iconst X 0 dX6_best_36 (by decide) ?_
      obtain ⟨y7, v8, hc9, h⟩ := gB_inv h
      refine g_callV X (st := []) (st' := []) kcX6_rows kvX6_rows kl6_213 (⟨rfl, rfl, by decide, by decide⟩) (mX6_rows hc9) hNM_0 (shM_0 _) rfl rfl rfl (Nat.le_of_ble_eq_true rfl) rfl dX6_best_37 ?_
      refine g_iload_n X dX6_best_40 rfl 2 rfl ?_
      refine g_if_ne X 51 dX6_best_41 (by decide) (fun c => ?_) (fun c => ?_)
      · replace h := gF c h
        refine g_aload_n X dX6_best_51 rfl 0 rfl ?_
        refine g_get X fl6_210 hNM_0 (shM_0 _) rfl dX6_best_52 ?_
        exact g_iretR X h dX6_best_55
      · replace h := gTr c h
        refine g_aload_n X dX6_best_44 rfl 0 rfl ?_
        refine g_get X fl6_207 hNM_0 (shM_0 _) rfl dX6_best_45 ?_
        refine g_goto X 55 dX6_best_48 (by decide) ?_
        exact g_iretR X h dX6_best_55
    · replace h := gTr c h
      refine g_bipush X (-2) dX6_best_19 (by decide) ?_
      exact g_iretR X h dX6_best_21

theorem mX6_best {l : Launch} {D : va_G} {cA : Nat → ClassId} {r : Nat → Nat} {v : gV} {x1 : Int32} {x2 : Int32} {xr : Int32} {v' : gV} (h : fX6_best v x1 x2 = some (xr, v')) : Ct l D (tysM cA) (shM cA r) 19 r (ZM r) yX6_best cX6_best 3 (some .int) rmX6_best [.ref (r 0), .int x1, .int x2] v (some (.int xr)) v' := ct_of plX6 ZM_ok (Nat.le_of_ble_eq_true rfl) rfl (fun _ X => bX6_best_0 X v x1 x2 h)

def rmX6_drunkWith : Room := { frames := 7, cells := 0, slots := 0, locals := 155 }

set_option maxHeartbeats 4000000 in
set_option maxRecDepth 100000 in
theorem bX6_drunkWith_70 {l : Launch} {D : va_G} {cA : Nat → ClassId} {r : Nat → Nat} {G : gG} {xr : Int32} {v' : gV} (X : XM l D cA r RX6 cX6_drunkWith 3 (some .int) rmX6_drunkWith (some (.int xr)) v' G) (v : gV) (x2 : Int32) (s1 : Int32) (h : fX6_drunkWith_70 v x2 s1 = some (xr, v')) : G v [(0, .ref (r 0)), (2, .int x2)] 70 [.int s1, .ref (r 0)] := by
  unfold fX6_drunkWith_70 at h
  obtain ⟨c, h⟩ := gGd h
  refine g_putZ X (fsM6 r) fp6_220 hNM_0 (shM_0) (fun _ => rfl) (Nat.le_of_ble_eq_true rfl) c dX6_drunkWith_70 ?_
  refine g_aload_n X dX6_drunkWith_73 rfl 0 rfl ?_
  refine g_iconst X 0 dX6_drunkWith_74 (by decide) ?_
  obtain ⟨y7, v8, hc9, h⟩ := gB_inv h
  refine g_callV X (st := []) (st' := []) kcX6_laysBack kvX6_laysBack kl6_204 (⟨rfl, rfl, by decide, by decide⟩) (mX6_laysBack hc9) hNM_0 (shM_0 _) rfl rfl rfl (Nat.le_of_ble_eq_true rfl) rfl dX6_drunkWith_75 ?_
  refine g_iload_n X dX6_drunkWith_78 rfl 1 rfl ?_
  exact g_iretR X h dX6_drunkWith_79

set_option maxHeartbeats 4000000 in
set_option maxRecDepth 100000 in
theorem bX6_drunkWith_69 {l : Launch} {D : va_G} {cA : Nat → ClassId} {r : Nat → Nat} {G : gG} {xr : Int32} {v' : gV} (X : XM l D cA r RX6 cX6_drunkWith 3 (some .int) rmX6_drunkWith (some (.int xr)) v' G) (v : gV) (x2 : Int32) (h : fX6_drunkWith_69 v x2 = some (xr, v')) : G v [(0, .ref (r 0)), (2, .int x2)] 69 [.ref (r 0)] := by
  unfold fX6_drunkWith_69 at h
  refine g_iconst X 0 dX6_drunkWith_69 (by decide) ?_
  exact bX6_drunkWith_70 X  _ _ _  h

set_option maxHeartbeats 4000000 in
set_option maxRecDepth 100000 in
theorem bX6_drunkWith_0 {l : Launch} {D : va_G} {cA : Nat → ClassId} {r : Nat → Nat} {G : gG} {xr : Int32} {v' : gV} (X : XM l D cA r RX6 cX6_drunkWith 3 (some .int) rmX6_drunkWith (some (.int xr)) v' G) (v : gV) (x1 : Int32) (h : fX6_drunkWith v x1 = some (xr, v')) : G v [(0, .ref (r 0)), (1, .int x1)] 0 [] := by
  unfold fX6_drunkWith at h
  refine g_aload_n X dX6_drunkWith_0 rfl 0 rfl ?_
  refine g_iconst X 0 dX6_drunkWith_1 (by decide) ?_
  obtain ⟨y1, v2, hc3, h⟩ := gB_inv h
  refine g_callV X (st := []) (st' := []) kcX6_keeps kvX6_keeps kl6_198 (⟨rfl, rfl, by decide, by decide⟩) (mX6_keeps hc3) hNM_0 (shM_0 _) rfl rfl rfl (Nat.le_of_ble_eq_true rfl) rfl dX6_drunkWith_2 ?_
  refine g_aload_n X dX6_drunkWith_5 rfl 0 rfl ?_
  refine g_get X fl6_7 hNM_0 (shM_0 _) rfl dX6_drunkWith_6 ?_
  refine g_iconst X 0 dX6_drunkWith_9 (by decide) ?_
  refine g_iload_n X dX6_drunkWith_10 rfl 1 rfl ?_
  refine g_iastK X 0 hNM_1 (shM_1) rfl vin_0_7 dX6_drunkWith_11 ?_
  refine g_aload_n X dX6_drunkWith_12 rfl 0 rfl ?_
  refine g_sipush X 200 dX6_drunkWith_13 (by decide) ?_
  obtain ⟨y4, v5, hc6, h⟩ := gB_inv h
  refine g_callV X (st := []) (st' := [.int y4]) kcX6_goesOn kvX6_goesOn kl6_201 (⟨rfl, rfl, by decide, by decide⟩) (mX6_goesOn hc6) hNM_0 (shM_0 _) rfl rfl rfl (Nat.le_of_ble_eq_true rfl) rfl dX6_drunkWith_16 ?_
  refine g_pop X dX6_drunkWith_19 rfl ?_
  refine g_aload_n X dX6_drunkWith_20 rfl 0 rfl ?_
  refine g_get X fl6_7 hNM_0 (shM_0 _) rfl dX6_drunkWith_21 ?_
  refine g_iconst X 5 dX6_drunkWith_24 (by decide) ?_
  refine g_ialdK X 5 hNM_1 (shM_1 _) rfl vin_5_7 dX6_drunkWith_25 ?_
  refine g_istore_n X (ls' := [(2, .int (v5 1 5)), (0, .ref (r 0)), (1, .int x1)]) dX6_drunkWith_26 rfl (by decide) rfl ?_
  refine g_aload_n X dX6_drunkWith_27 rfl 1 rfl ?_
  refine g_aload_n X dX6_drunkWith_28 rfl 1 rfl ?_
  refine g_get X fl6_7 hNM_0 (shM_0 _) rfl dX6_drunkWith_29 ?_
  refine g_iconst X 1 dX6_drunkWith_32 (by decide) ?_
  refine g_ialdK X 1 hNM_1 (shM_1 _) rfl vin_1_7 dX6_drunkWith_33 ?_
  refine g_put X (fsM6 r) fp6_217 hNM_0 (shM_0) (fun _ => rfl) (Nat.le_of_ble_eq_true rfl) dX6_drunkWith_34 ?_
  refine g_aload_n X dX6_drunkWith_37 rfl 1 rfl ?_
  refine g_aload_n X dX6_drunkWith_38 rfl 1 rfl ?_
  refine g_get X fl6_7 hNM_0 (shM_0 _) rfl dX6_drunkWith_39 ?_
  refine g_iconst X 0 dX6_drunkWith_42 (by decide) ?_
  refine g_ialdK X 0 hNM_1 (shM_1 _) rfl vin_0_7 dX6_drunkWith_43 ?_
  refine g_if_ne X 69 dX6_drunkWith_44 (by decide) (fun c => ?_) (fun c => ?_)
  · replace h := gF c h
    refine g_sub X [1, 0] (ls' := [(0, .ref (r 0)), (2, .int (v5 1 5))]) rfl ?_
    exact bX6_drunkWith_69 X  _ _  h
  · replace h := gTr c h
    refine g_aload_n X dX6_drunkWith_47 rfl 1 rfl ?_
    refine g_get X fl6_7 hNM_0 (shM_0 _) rfl dX6_drunkWith_48 ?_
    refine g_iconst X 1 dX6_drunkWith_51 (by decide) ?_
    refine g_ialdK X 1 hNM_1 (shM_1 _) rfl vin_1_7 dX6_drunkWith_52 ?_
    refine g_if_ne X 69 dX6_drunkWith_53 (by decide) (fun c => ?_) (fun c => ?_)
    · replace h := gF c h
      refine g_sub X [1, 0] (ls' := [(0, .ref (r 0)), (2, .int (v5 1 5))]) rfl ?_
      exact bX6_drunkWith_69 X  _ _  h
    · replace h := gTr c h
      refine g_aload_n X dX6_drunkWith_56 rfl 1 rfl ?_
      refine g_get X fl6_7 hNM_0 (shM_0 _) rfl dX6_drunkWith_57 ?_
      refine g_iconst X 4 dX6_drunkWith_60 (by decide) ?_
      refine g_ialdK X 4 hNM_1 (shM_1 _) rfl vin_4_7 dX6_drunkWith_61 ?_
      refine g_if_ne X 69 dX6_drunkWith_62 (by decide) (fun c => ?_) (fun c => ?_)
      · replace h := gF c h
        refine g_sub X [1, 0] (ls' := [(0, .ref (r 0)), (2, .int (v5 1 5))]) rfl ?_
        exact bX6_drunkWith_69 X  _ _  h
      · replace h := gTr c h
        refine g_iconst X 1 dX6_drunkWith_65 (by decide) ?_
        refine g_goto X 70 dX6_drunkWith_66 (by decide) ?_
        refine g_sub X [1, 0] (ls' := [(0, .ref (r 0)), (2, .int (v5 1 5))]) rfl ?_
        exact bX6_drunkWith_70 X  _ _ _  h

theorem mX6_drunkWith {l : Launch} {D : va_G} {cA : Nat → ClassId} {r : Nat → Nat} {v : gV} {x1 : Int32} {xr : Int32} {v' : gV} (h : fX6_drunkWith v x1 = some (xr, v')) : Ct l D (tysM cA) (shM cA r) 19 r (ZM r) yX6_drunkWith cX6_drunkWith 3 (some .int) rmX6_drunkWith [.ref (r 0), .int x1] v (some (.int xr)) v' := ct_of plX6 ZM_ok (Nat.le_of_ble_eq_true rfl) rfl (fun _ X => bX6_drunkWith_0 X v x1 h)

def rmX6_least : Room := { frames := 8, cells := 0, slots := 0, locals := 177 }

set_option maxHeartbeats 4000000 in
set_option maxRecDepth 100000 in
theorem bX6_least_53 {l : Launch} {D : va_G} {cA : Nat → ClassId} {r : Nat → Nat} {G : gG} {xr : Int32} {v' : gV} {k25 : gV → Int32 → Int32 → Int32 → Option (Int32 × gV)} (X : XM l D cA r RX6 cX6_least 4 (some .int) rmX6_least (some (.int xr)) v' G) (K25 : ∀ (v : gV) (x1 : Int32) (x2 : Int32) (x3 : Int32), k25 v x1 x2 x3 = some (xr, v') → G v [(0, .ref (r 0)), (1, .int x1), (2, .int x2), (3, .int x3)] 25 []) (v : gV) (x1 : Int32) (x2 : Int32) (x3 : Int32) (h : fX6_least_53 k25 v x1 x2 x3 = some (xr, v')) : G v [(0, .ref (r 0)), (1, .int x1), (2, .int x2), (3, .int x3)] 53 [] := by
  unfold fX6_least_53 at h
  refine g_iinc X (x3 + 1) [(3, .int (x3 + 1)), (0, .ref (r 0)), (1, .int x1), (2, .int x2)] dX6_least_53 3 rfl rfl (by decide) rfl ?_
  refine g_goto X 25 dX6_least_56 (by decide) ?_
  refine g_sub X [1, 2, 3, 0] (ls' := [(0, .ref (r 0)), (1, .int x1), (2, .int x2), (3, .int (x3 + 1))]) rfl ?_
  exact K25 _ _ _ _  h

set_option maxHeartbeats 4000000 in
set_option maxRecDepth 100000 in
theorem bX6_least_25 {l : Launch} {D : va_G} {cA : Nat → ClassId} {r : Nat → Nat} {G : gG} {xr : Int32} {v' : gV} (X : XM l D cA r RX6 cX6_least 4 (some .int) rmX6_least (some (.int xr)) v' G) : ∀ (n : Nat) (v : gV) (x1 : Int32) (x2 : Int32) (x3 : Int32), fX6_least_25 n v x1 x2 x3 = some (xr, v') → G v [(0, .ref (r 0)), (1, .int x1), (2, .int x2), (3, .int x3)] 25 [] := by
  intro n
  induction n with
  | zero => intro v x1 x2 x3 h; rw [fX6_least_25] at h; cases h
  | succ n ih =>
    intro v x1 x2 x3 h
    rw [fX6_least_25] at h
    refine g_iload_n X dX6_least_25 rfl 3 rfl ?_
    refine g_bipush X 60 dX6_least_26 (by decide) ?_
    refine g_icmp_gt X 59 dX6_least_28 (by decide) (fun c => ?_) (fun c => ?_)
    · replace h := gTr c h
      refine g_iconst X (-1) dX6_least_59 (by decide) ?_
      exact g_iretR X h dX6_least_60
    · replace h := gF c h
      refine g_aload_n X dX6_least_31 rfl 0 rfl ?_
      refine g_iload_n X dX6_least_32 rfl 3 rfl ?_
      obtain ⟨y7, v8, hc9, h⟩ := gB_inv h
      refine g_callV X (st := []) (st' := [.int y7]) kcX6_drunkWith kvX6_drunkWith kl6_224 (⟨rfl, rfl, by decide, by decide⟩) (mX6_drunkWith hc9) hNM_0 (shM_0 _) rfl rfl rfl (Nat.le_of_ble_eq_true rfl) rfl dX6_least_33 ?_
      refine g_iload_n X dX6_least_36 rfl 1 rfl ?_
      refine g_icmp_lt X 53 dX6_least_37 (by decide) (fun c => ?_) (fun c => ?_)
      · replace h := gTr c h
        exact bX6_least_53 X ih _ _ _ _  h
      · replace h := gF c h
        refine g_iload_n X dX6_least_40 rfl 2 rfl ?_
        refine g_if_eq X 51 dX6_least_41 (by decide) (fun c => ?_) (fun c => ?_)
        · replace h := gTr c h
          refine g_iload_n X dX6_least_51 rfl 3 rfl ?_
          exact g_iretR X h dX6_least_52
        · replace h := gF c h
          refine g_aload_n X dX6_least_44 rfl 0 rfl ?_
          refine g_get X fl6_220 hNM_0 (shM_0 _) rfl dX6_least_45 ?_
          refine g_if_eq X 53 dX6_least_48 (by decide) (fun c => ?_) (fun c => ?_)
          · replace h := gTr c h
            exact bX6_least_53 X ih _ _ _ _  h
          · replace h := gF c h
            refine g_iload_n X dX6_least_51 rfl 3 rfl ?_
            exact g_iretR X h dX6_least_52

set_option maxHeartbeats 4000000 in
set_option maxRecDepth 100000 in
theorem bX6_least_0 {l : Launch} {D : va_G} {cA : Nat → ClassId} {r : Nat → Nat} {G : gG} {xr : Int32} {v' : gV} (X : XM l D cA r RX6 cX6_least 4 (some .int) rmX6_least (some (.int xr)) v' G) (v : gV) (x1 : Int32) (x2 : Int32) (h : fX6_least v x1 x2 = some (xr, v')) : G v [(0, .ref (r 0)), (1, .int x1), (2, .int x2)] 0 [] := by
  unfold fX6_least at h
  refine g_iload_n X dX6_least_0 rfl 1 rfl ?_
  refine g_iconst X 0 dX6_least_1 (by decide) ?_
  refine g_sipush X 999 dX6_least_2 (by decide) ?_
  obtain ⟨y1, v2, hc3, h⟩ := gB_inv h
  refine g_callS X (st := []) (st' := [.int y1]) kcX6_in ktX6_in kl6_78 (⟨rfl, rfl, by decide, by decide⟩) (mX6_in hc3) rfl rfl (Nat.le_of_ble_eq_true rfl) rfl dX6_least_5 ?_
  refine g_if_eq X 20 dX6_least_8 (by decide) (fun c => ?_) (fun c => ?_)
  · replace h := gTr c h
    refine g_bipush X (-2) dX6_least_20 (by decide) ?_
    exact g_iretR X h dX6_least_22
  · replace h := gF c h
    refine g_iload_n X dX6_least_11 rfl 2 rfl ?_
    refine g_iconst X 0 dX6_least_12 (by decide) ?_
    refine g_iconst X 1 dX6_least_13 (by decide) ?_
    obtain ⟨y4, v5, hc6, h⟩ := gB_inv h
    refine g_callS X (st := []) (st' := [.int y4]) kcX6_in ktX6_in kl6_78 (⟨rfl, rfl, by decide, by decide⟩) (mX6_in hc6) rfl rfl (Nat.le_of_ble_eq_true rfl) rfl dX6_least_14 ?_
    refine g_if_ne X 23 dX6_least_17 (by decide) (fun c => ?_) (fun c => ?_)
    · replace h := gF c h
      refine g_iconst X 0 dX6_least_23 (by decide) ?_
      refine g_istore_n X (ls' := [(3, .int 0), (0, .ref (r 0)), (1, .int x1), (2, .int x2)]) dX6_least_24 rfl (by decide) rfl ?_
      refine g_sub X [1, 2, 3, 0] (ls' := [(0, .ref (r 0)), (1, .int x1), (2, .int x2), (3, .int 0)]) rfl ?_
      exact bX6_least_25 X  _ _ _ _ _  h
    · replace h := gTr c h
      refine g_bipush X (-2) dX6_least_20 (by decide) ?_
      exact g_iretR X h dX6_least_22

theorem mX6_least {l : Launch} {D : va_G} {cA : Nat → ClassId} {r : Nat → Nat} {v : gV} {x1 : Int32} {x2 : Int32} {xr : Int32} {v' : gV} (h : fX6_least v x1 x2 = some (xr, v')) : Ct l D (tysM cA) (shM cA r) 19 r (ZM r) yX6_least cX6_least 4 (some .int) rmX6_least [.ref (r 0), .int x1, .int x2] v (some (.int xr)) v' := ct_of plX6 ZM_ok (Nat.le_of_ble_eq_true rfl) rfl (fun _ X => bX6_least_0 X v x1 x2 h)

def rmX6_bought : Room := { frames := 8, cells := 0, slots := 0, locals := 177 }

set_option maxHeartbeats 4000000 in
set_option maxRecDepth 100000 in
theorem bX6_bought_65 {l : Launch} {D : va_G} {cA : Nat → ClassId} {r : Nat → Nat} {G : gG} {xr : Int64} {v' : gV} {k31 : gV → Int32 → Int32 → Int64 → Int32 → Option (Int64 × gV)} (X : XM l D cA r RX6 cX6_bought 6 (some .long) rmX6_bought (some (.long xr)) v' G) (K31 : ∀ (v : gV) (x1 : Int32) (x2 : Int32) (x3 : Int64) (x5 : Int32), k31 v x1 x2 x3 x5 = some (xr, v') → G v [(0, .ref (r 0)), (1, .int x1), (2, .int x2), (3, .long x3), (5, .int x5)] 31 []) (v : gV) (x1 : Int32) (x2 : Int32) (x5 : Int32) (s0 : Int64) (s1 : Int64) (h : fX6_bought_65 k31 v x1 x2 x5 s0 s1 = some (xr, v')) : G v [(0, .ref (r 0)), (1, .int x1), (2, .int x2), (5, .int x5)] 65 [.long s1, .long s0] := by
  unfold fX6_bought_65 at h
  refine g_lor X dX6_bought_65 ?_
  refine g_lstore_n X (ls' := [(3, .long (s0 ||| s1)), (0, .ref (r 0)), (1, .int x1), (2, .int x2), (5, .int x5)]) dX6_bought_66 rfl (by decide) rfl ?_
  refine g_iinc X (x5 + 1) [(5, .int (x5 + 1)), (3, .long (s0 ||| s1)), (0, .ref (r 0)), (1, .int x1), (2, .int x2)] dX6_bought_67 4 rfl rfl (by decide) rfl ?_
  refine g_goto X 31 dX6_bought_70 (by decide) ?_
  refine g_sub X [2, 3, 4, 1, 0] (ls' := [(0, .ref (r 0)), (1, .int x1), (2, .int x2), (3, .long (s0 ||| s1)), (5, .int (x5 + 1))]) rfl ?_
  exact K31 _ _ _ _ _  h

set_option maxHeartbeats 4000000 in
set_option maxRecDepth 100000 in
theorem bX6_bought_64 {l : Launch} {D : va_G} {cA : Nat → ClassId} {r : Nat → Nat} {G : gG} {xr : Int64} {v' : gV} {k31 : gV → Int32 → Int32 → Int64 → Int32 → Option (Int64 × gV)} (X : XM l D cA r RX6 cX6_bought 6 (some .long) rmX6_bought (some (.long xr)) v' G) (K31 : ∀ (v : gV) (x1 : Int32) (x2 : Int32) (x3 : Int64) (x5 : Int32), k31 v x1 x2 x3 x5 = some (xr, v') → G v [(0, .ref (r 0)), (1, .int x1), (2, .int x2), (3, .long x3), (5, .int x5)] 31 []) (v : gV) (x1 : Int32) (x2 : Int32) (x5 : Int32) (s0 : Int64) (h : fX6_bought_64 k31 v x1 x2 x5 s0 = some (xr, v')) : G v [(0, .ref (r 0)), (1, .int x1), (2, .int x2), (5, .int x5)] 64 [.long s0] := by
  unfold fX6_bought_64 at h
  refine g_lconst X 0 dX6_bought_64 (by decide) ?_
  exact bX6_bought_65 X K31 _ _ _ _ _ _  h

set_option maxHeartbeats 4000000 in
set_option maxRecDepth 100000 in
theorem bX6_bought_31 {l : Launch} {D : va_G} {cA : Nat → ClassId} {r : Nat → Nat} {G : gG} {xr : Int64} {v' : gV} (X : XM l D cA r RX6 cX6_bought 6 (some .long) rmX6_bought (some (.long xr)) v' G) : ∀ (n : Nat) (v : gV) (x1 : Int32) (x2 : Int32) (x3 : Int64) (x5 : Int32), fX6_bought_31 n v x1 x2 x3 x5 = some (xr, v') → G v [(0, .ref (r 0)), (1, .int x1), (2, .int x2), (3, .long x3), (5, .int x5)] 31 [] := by
  intro n
  induction n with
  | zero => intro v x1 x2 x3 x5 h; rw [fX6_bought_31] at h; cases h
  | succ n ih =>
    intro v x1 x2 x3 x5 h
    rw [fX6_bought_31] at h
    refine g_iload X dX6_bought_31 4 rfl ?_
    refine g_bipush X 60 dX6_bought_33 (by decide) ?_
    refine g_icmp_gt X 73 dX6_bought_35 (by decide) (fun c => ?_) (fun c => ?_)
    · replace h := gTr c h
      refine g_lload_n X dX6_bought_73 rfl 3 rfl ?_
      exact g_lretR X h dX6_bought_74
    · replace h := gF c h
      refine g_lload_n X dX6_bought_38 rfl 3 rfl ?_
      refine g_aload_n X dX6_bought_39 rfl 0 rfl ?_
      refine g_iload X dX6_bought_40 4 rfl ?_
      obtain ⟨y7, v8, hc9, h⟩ := gB_inv h
      refine g_callV X (st := [.long x3]) (st' := [.int y7, .long x3]) kcX6_drunkWith kvX6_drunkWith kl6_224 (⟨rfl, rfl, by decide, by decide⟩) (mX6_drunkWith hc9) hNM_0 (shM_0 _) rfl rfl rfl (Nat.le_of_ble_eq_true rfl) rfl dX6_bought_42 ?_
      refine g_iload_n X dX6_bought_45 rfl 1 rfl ?_
      refine g_icmp_ne X 64 dX6_bought_46 (by decide) (fun c => ?_) (fun c => ?_)
      · replace h := gF c h
        refine g_sub X [0, 1, 2, 4] (ls' := [(0, .ref (r 0)), (1, .int x1), (2, .int x2), (5, .int x5)]) rfl ?_
        exact bX6_bought_64 X ih _ _ _ _ _  h
      · replace h := gTr c h
        refine g_aload_n X dX6_bought_49 rfl 0 rfl ?_
        refine g_get X fl6_217 hNM_0 (shM_0 _) rfl dX6_bought_50 ?_
        refine g_iload_n X dX6_bought_53 rfl 2 rfl ?_
        refine g_icmp_ne X 64 dX6_bought_54 (by decide) (fun c => ?_) (fun c => ?_)
        · replace h := gF c h
          refine g_sub X [0, 1, 2, 4] (ls' := [(0, .ref (r 0)), (1, .int x1), (2, .int x2), (5, .int x5)]) rfl ?_
          exact bX6_bought_64 X ih _ _ _ _ _  h
        · replace h := gTr c h
          refine g_lconst X 1 dX6_bought_57 (by decide) ?_
          refine g_iload X dX6_bought_58 4 rfl ?_
          refine g_lshl X dX6_bought_60 ?_
          refine g_goto X 65 dX6_bought_61 (by decide) ?_
          refine g_sub X [0, 1, 2, 4] (ls' := [(0, .ref (r 0)), (1, .int x1), (2, .int x2), (5, .int x5)]) rfl ?_
          exact bX6_bought_65 X ih _ _ _ _ _ _  h

set_option maxHeartbeats 4000000 in
set_option maxRecDepth 100000 in
theorem bX6_bought_0 {l : Launch} {D : va_G} {cA : Nat → ClassId} {r : Nat → Nat} {G : gG} {xr : Int64} {v' : gV} (X : XM l D cA r RX6 cX6_bought 6 (some .long) rmX6_bought (some (.long xr)) v' G) (v : gV) (x1 : Int32) (x2 : Int32) (h : fX6_bought v x1 x2 = some (xr, v')) : G v [(0, .ref (r 0)), (1, .int x1), (2, .int x2)] 0 [] := by
  unfold fX6_bought at h
  refine g_iload_n X dX6_bought_0 rfl 1 rfl ?_
  refine g_iconst X 0 dX6_bought_1 (by decide) ?_
  refine g_sipush X 999 dX6_bought_2 (by decide) ?_
  obtain ⟨y1, v2, hc3, h⟩ := gB_inv h
  refine g_callS X (st := []) (st' := [.int y1]) kcX6_in ktX6_in kl6_78 (⟨rfl, rfl, by decide, by decide⟩) (mX6_in hc3) rfl rfl (Nat.le_of_ble_eq_true rfl) rfl dX6_bought_5 ?_
  refine g_if_eq X 22 dX6_bought_8 (by decide) (fun c => ?_) (fun c => ?_)
  · replace h := gTr c h
    refine g_ldc2 X kk6_227 dX6_bought_22 ?_
    exact g_lretR X h dX6_bought_25
  · replace h := gF c h
    refine g_iload_n X dX6_bought_11 rfl 2 rfl ?_
    refine g_iconst X 0 dX6_bought_12 (by decide) ?_
    refine g_sipush X 999 dX6_bought_13 (by decide) ?_
    obtain ⟨y4, v5, hc6, h⟩ := gB_inv h
    refine g_callS X (st := []) (st' := [.int y4]) kcX6_in ktX6_in kl6_78 (⟨rfl, rfl, by decide, by decide⟩) (mX6_in hc6) rfl rfl (Nat.le_of_ble_eq_true rfl) rfl dX6_bought_16 ?_
    refine g_if_ne X 26 dX6_bought_19 (by decide) (fun c => ?_) (fun c => ?_)
    · replace h := gF c h
      refine g_lconst X 0 dX6_bought_26 (by decide) ?_
      refine g_lstore_n X (ls' := [(3, .long 0), (0, .ref (r 0)), (1, .int x1), (2, .int x2)]) dX6_bought_27 rfl (by decide) rfl ?_
      refine g_iconst X 0 dX6_bought_28 (by decide) ?_
      refine g_istore X (ls' := [(5, .int 0), (3, .long 0), (0, .ref (r 0)), (1, .int x1), (2, .int x2)]) dX6_bought_29 (by decide) rfl ?_
      refine g_sub X [2, 3, 4, 1, 0] (ls' := [(0, .ref (r 0)), (1, .int x1), (2, .int x2), (3, .long 0), (5, .int 0)]) rfl ?_
      exact bX6_bought_31 X  _ _ _ _ _ _  h
    · replace h := gTr c h
      refine g_ldc2 X kk6_227 dX6_bought_22 ?_
      exact g_lretR X h dX6_bought_25

theorem mX6_bought {l : Launch} {D : va_G} {cA : Nat → ClassId} {r : Nat → Nat} {v : gV} {x1 : Int32} {x2 : Int32} {xr : Int64} {v' : gV} (h : fX6_bought v x1 x2 = some (xr, v')) : Ct l D (tysM cA) (shM cA r) 19 r (ZM r) yX6_bought cX6_bought 6 (some .long) rmX6_bought [.ref (r 0), .int x1, .int x2] v (some (.long xr)) v' := ct_of plX6 ZM_ok (Nat.le_of_ble_eq_true rfl) rfl (fun _ X => bX6_bought_0 X v x1 x2 h)

def rmX6_friends : Room := { frames := 8, cells := 0, slots := 0, locals := 177 }

set_option maxHeartbeats 4000000 in
set_option maxRecDepth 100000 in
theorem bX6_friends_0 {l : Launch} {D : va_G} {cA : Nat → ClassId} {r : Nat → Nat} {G : gG} {xr : Int32} {v' : gV} (X : XM l D cA r RX6 cX6_friends 3 (some .int) rmX6_friends (some (.int xr)) v' G) (v : gV) (x1 : Int32) (x2 : Int32) (h : fX6_friends v x1 x2 = some (xr, v')) : G v [(0, .ref (r 0)), (1, .int x1), (2, .int x2)] 0 [] := by
  unfold fX6_friends at h
  refine g_iload_n X dX6_friends_0 rfl 1 rfl ?_
  refine g_iconst X 0 dX6_friends_1 (by decide) ?_
  refine g_bipush X 60 dX6_friends_2 (by decide) ?_
  obtain ⟨y1, v2, hc3, h⟩ := gB_inv h
  refine g_callS X (st := []) (st' := [.int y1]) kcX6_in ktX6_in kl6_78 (⟨rfl, rfl, by decide, by decide⟩) (mX6_in hc3) rfl rfl (Nat.le_of_ble_eq_true rfl) rfl dX6_friends_4 ?_
  refine g_if_eq X 20 dX6_friends_7 (by decide) (fun c => ?_) (fun c => ?_)
  · replace h := gTr c h
    refine g_ldc X kk6_229 dX6_friends_20 ?_
    exact g_iretR X h dX6_friends_22
  · replace h := gF c h
    refine g_iload_n X dX6_friends_10 rfl 2 rfl ?_
    refine g_iconst X 0 dX6_friends_11 (by decide) ?_
    refine g_bipush X 60 dX6_friends_12 (by decide) ?_
    obtain ⟨y4, v5, hc6, h⟩ := gB_inv h
    refine g_callS X (st := []) (st' := [.int y4]) kcX6_in ktX6_in kl6_78 (⟨rfl, rfl, by decide, by decide⟩) (mX6_in hc6) rfl rfl (Nat.le_of_ble_eq_true rfl) rfl dX6_friends_14 ?_
    refine g_if_ne X 23 dX6_friends_17 (by decide) (fun c => ?_) (fun c => ?_)
    · replace h := gF c h
      refine g_aload_n X dX6_friends_23 rfl 0 rfl ?_
      refine g_iload_n X dX6_friends_24 rfl 1 rfl ?_
      refine g_iload_n X dX6_friends_25 rfl 2 rfl ?_
      refine g_iadd X dX6_friends_26 ?_
      obtain ⟨y7, v8, hc9, h⟩ := gB_inv h
      refine g_callV X (st := []) (st' := [.int y7]) kcX6_drunkWith kvX6_drunkWith kl6_224 (⟨rfl, rfl, by decide, by decide⟩) (mX6_drunkWith hc9) hNM_0 (shM_0 _) rfl rfl rfl (Nat.le_of_ble_eq_true rfl) rfl dX6_friends_27 ?_
      refine g_aload_n X dX6_friends_30 rfl 0 rfl ?_
      refine g_iload_n X dX6_friends_31 rfl 1 rfl ?_
      obtain ⟨y10, v11, hc12, h⟩ := gB_inv h
      refine g_callV X (st := [.int y7]) (st' := [.int y10, .int y7]) kcX6_drunkWith kvX6_drunkWith kl6_224 (⟨rfl, rfl, by decide, by decide⟩) (mX6_drunkWith hc12) hNM_0 (shM_0 _) rfl rfl rfl (Nat.le_of_ble_eq_true rfl) rfl dX6_friends_32 ?_
      refine g_isub X dX6_friends_35 ?_
      refine g_aload_n X dX6_friends_36 rfl 0 rfl ?_
      refine g_iload_n X dX6_friends_37 rfl 2 rfl ?_
      obtain ⟨y13, v14, hc15, h⟩ := gB_inv h
      refine g_callV X (st := [.int (y7 - y10)]) (st' := [.int y13, .int (y7 - y10)]) kcX6_drunkWith kvX6_drunkWith kl6_224 (⟨rfl, rfl, by decide, by decide⟩) (mX6_drunkWith hc15) hNM_0 (shM_0 _) rfl rfl rfl (Nat.le_of_ble_eq_true rfl) rfl dX6_friends_38 ?_
      refine g_isub X dX6_friends_41 ?_
      refine g_aload_n X dX6_friends_42 rfl 0 rfl ?_
      refine g_get X fl6_7 hNM_0 (shM_0 _) rfl dX6_friends_43 ?_
      refine g_iconst X 5 dX6_friends_46 (by decide) ?_
      refine g_ialdK X 5 hNM_1 (shM_1 _) rfl vin_5_7 dX6_friends_47 ?_
      refine g_iadd X dX6_friends_48 ?_
      exact g_iretR X h dX6_friends_49
    · replace h := gTr c h
      refine g_ldc X kk6_229 dX6_friends_20 ?_
      exact g_iretR X h dX6_friends_22

theorem mX6_friends {l : Launch} {D : va_G} {cA : Nat → ClassId} {r : Nat → Nat} {v : gV} {x1 : Int32} {x2 : Int32} {xr : Int32} {v' : gV} (h : fX6_friends v x1 x2 = some (xr, v')) : Ct l D (tysM cA) (shM cA r) 19 r (ZM r) yX6_friends cX6_friends 3 (some .int) rmX6_friends [.ref (r 0), .int x1, .int x2] v (some (.int xr)) v' := ct_of plX6 ZM_ok (Nat.le_of_ble_eq_true rfl) rfl (fun _ X => bX6_friends_0 X v x1 x2 h)

def rmX6_worth : Room := { frames := 8, cells := 0, slots := 0, locals := 177 }

set_option maxHeartbeats 4000000 in
set_option maxRecDepth 100000 in
theorem bX6_worth_0 {l : Launch} {D : va_G} {cA : Nat → ClassId} {r : Nat → Nat} {G : gG} {xr : Int32} {v' : gV} (X : XM l D cA r RX6 cX6_worth 4 (some .int) rmX6_worth (some (.int xr)) v' G) (v : gV) (x1 : Int32) (h : fX6_worth v x1 = some (xr, v')) : G v [(0, .ref (r 0)), (1, .int x1)] 0 [] := by
  unfold fX6_worth at h
  refine g_aload_n X dX6_worth_0 rfl 0 rfl ?_
  refine g_iload_n X dX6_worth_1 rfl 1 rfl ?_
  obtain ⟨y1, v2, hc3, h⟩ := gB_inv h
  refine g_callV X (st := []) (st' := [.int y1]) kcX6_isRate kvX6_isRate kl6_165 (⟨rfl, rfl, by decide, by decide⟩) (mX6_isRate hc3) hNM_0 (shM_0 _) rfl rfl rfl (Nat.le_of_ble_eq_true rfl) rfl dX6_worth_2 ?_
  refine g_if_ne X 11 dX6_worth_5 (by decide) (fun c => ?_) (fun c => ?_)
  · replace h := gF c h
    refine g_aload_n X dX6_worth_11 rfl 0 rfl ?_
    refine g_aload_n X dX6_worth_12 rfl 0 rfl ?_
    refine g_get X fl6_7 hNM_0 (shM_0 _) rfl dX6_worth_13 ?_
    refine g_iconst X 0 dX6_worth_16 (by decide) ?_
    refine g_ialdK X 0 hNM_1 (shM_1 _) rfl vin_0_7 dX6_worth_17 ?_
    obtain ⟨y4, v5, hc6, h⟩ := gB_inv h
    refine g_callV X (st := []) (st' := [.int y4]) kcX6_drunkWith kvX6_drunkWith kl6_224 (⟨rfl, rfl, by decide, by decide⟩) (mX6_drunkWith hc6) hNM_0 (shM_0 _) rfl rfl rfl (Nat.le_of_ble_eq_true rfl) rfl dX6_worth_18 ?_
    refine g_istore_n X (ls' := [(2, .int y4), (0, .ref (r 0)), (1, .int x1)]) dX6_worth_21 rfl (by decide) rfl ?_
    refine g_aload_n X dX6_worth_22 rfl 1 rfl ?_
    refine g_iload_n X dX6_worth_23 rfl 2 rfl ?_
    refine g_put X (fsM6 r) fp6_25 hNM_0 (shM_0) (fun _ => rfl) (Nat.le_of_ble_eq_true rfl) dX6_worth_24 ?_
    refine g_aload_n X dX6_worth_27 rfl 1 rfl ?_
    refine g_aload_n X dX6_worth_28 rfl 1 rfl ?_
    refine g_get X fl6_7 hNM_0 (shM_0 _) rfl dX6_worth_29 ?_
    refine g_iconst X 0 dX6_worth_32 (by decide) ?_
    refine g_ialdK X 0 hNM_1 (shM_1 _) rfl vin_0_7 dX6_worth_33 ?_
    obtain ⟨y7, v8, hc9, h⟩ := gB_inv h
    refine g_callV X (st := []) (st' := [.int y7]) kcX6_drunkWith kvX6_drunkWith kl6_224 (⟨rfl, rfl, by decide, by decide⟩) (mX6_drunkWith hc9) hNM_0 (shM_0 _) rfl rfl rfl (Nat.le_of_ble_eq_true rfl) rfl dX6_worth_34 ?_
    refine g_istore_n X (ls' := [(3, .int y7), (2, .int y4), (0, .ref (r 0)), (1, .int x1)]) dX6_worth_37 rfl (by decide) rfl ?_
    refine g_aload_n X dX6_worth_38 rfl 2 rfl ?_
    refine g_iconst X (-1) dX6_worth_39 (by decide) ?_
    refine g_put X (fsM6 r) fp6_25 hNM_0 (shM_0) (fun _ => rfl) (Nat.le_of_ble_eq_true rfl) dX6_worth_40 ?_
    refine g_iload_n X dX6_worth_43 rfl 1 rfl ?_
    refine g_iload_n X dX6_worth_44 rfl 0 rfl ?_
    refine g_isub X dX6_worth_45 ?_
    exact g_iretR X h dX6_worth_46
  · replace h := gTr c h
    refine g_ldc X kk6_229 dX6_worth_8 ?_
    exact g_iretR X h dX6_worth_10

theorem mX6_worth {l : Launch} {D : va_G} {cA : Nat → ClassId} {r : Nat → Nat} {v : gV} {x1 : Int32} {xr : Int32} {v' : gV} (h : fX6_worth v x1 = some (xr, v')) : Ct l D (tysM cA) (shM cA r) 19 r (ZM r) yX6_worth cX6_worth 4 (some .int) rmX6_worth [.ref (r 0), .int x1] v (some (.int xr)) v' := ct_of plX6 ZM_ok (Nat.le_of_ble_eq_true rfl) rfl (fun _ X => bX6_worth_0 X v x1 h)

def rmX6_neverEnds : Room := { frames := 3, cells := 0, slots := 0, locals := 67 }

set_option maxHeartbeats 4000000 in
set_option maxRecDepth 100000 in
theorem bX6_neverEnds_149 {l : Launch} {D : va_G} {cA : Nat → ClassId} {r : Nat → Nat} {G : gG} {xr : Int32} {v' : gV} {k13 : gV → Int32 → Int32 → Int32 → Int32 → Int32 → Int32 → Option (Int32 × gV)} (X : XM l D cA r RX6 cX6_neverEnds 8 (some .boolean) rmX6_neverEnds (some (.int xr)) v' G) (K13 : ∀ (v : gV) (x1 : Int32) (x2 : Int32) (x3 : Int32) (x4 : Int32) (x5 : Int32) (x6 : Int32), k13 v x1 x2 x3 x4 x5 x6 = some (xr, v') → G v [(0, .ref (r 0)), (1, .int x1), (2, .int x2), (3, .int x3), (4, .int x4), (5, .int x5), (6, .int x6)] 13 []) (v : gV) (x1 : Int32) (x2 : Int32) (x3 : Int32) (x4 : Int32) (x6 : Int32) (s0 : Int32) (s1 : Int32) (h : fX6_neverEnds_149 k13 v x1 x2 x3 x4 x6 s0 s1 = some (xr, v')) : G v [(0, .ref (r 0)), (1, .int x1), (2, .int x2), (3, .int x3), (4, .int x4), (6, .int x6)] 149 [.int s1, .int s0] := by
  unfold fX6_neverEnds_149 at h
  refine g_iadd X dX6_neverEnds_149 ?_
  refine g_istore X (ls' := [(5, .int (s0 + s1)), (0, .ref (r 0)), (1, .int x1), (2, .int x2), (3, .int x3), (4, .int x4), (6, .int x6)]) dX6_neverEnds_150 (by decide) rfl ?_
  refine g_iinc X (x6 + 1) [(6, .int (x6 + 1)), (5, .int (s0 + s1)), (0, .ref (r 0)), (1, .int x1), (2, .int x2), (3, .int x3), (4, .int x4)] dX6_neverEnds_152 6 rfl rfl (by decide) rfl ?_
  refine g_goto X 13 dX6_neverEnds_155 (by decide) ?_
  refine g_sub X [2, 3, 4, 5, 6, 1, 0] (ls' := [(0, .ref (r 0)), (1, .int x1), (2, .int x2), (3, .int x3), (4, .int x4), (5, .int (s0 + s1)), (6, .int (x6 + 1))]) rfl ?_
  exact K13 _ _ _ _ _ _ _  h

set_option maxHeartbeats 4000000 in
set_option maxRecDepth 100000 in
theorem bX6_neverEnds_120 {l : Launch} {D : va_G} {cA : Nat → ClassId} {r : Nat → Nat} {G : gG} {xr : Int32} {v' : gV} {k13 : gV → Int32 → Int32 → Int32 → Int32 → Int32 → Int32 → Option (Int32 × gV)} (X : XM l D cA r RX6 cX6_neverEnds 8 (some .boolean) rmX6_neverEnds (some (.int xr)) v' G) (K13 : ∀ (v : gV) (x1 : Int32) (x2 : Int32) (x3 : Int32) (x4 : Int32) (x5 : Int32) (x6 : Int32), k13 v x1 x2 x3 x4 x5 x6 = some (xr, v') → G v [(0, .ref (r 0)), (1, .int x1), (2, .int x2), (3, .int x3), (4, .int x4), (5, .int x5), (6, .int x6)] 13 []) (v : gV) (x1 : Int32) (x2 : Int32) (x3 : Int32) (x5 : Int32) (x6 : Int32) (x7 : Int32) (s0 : Int32) (s1 : Int32) (h : fX6_neverEnds_120 k13 v x1 x2 x3 x5 x6 x7 s0 s1 = some (xr, v')) : G v [(0, .ref (r 0)), (1, .int x1), (2, .int x2), (3, .int x3), (5, .int x5), (6, .int x6), (7, .int x7)] 120 [.int s1, .int s0] := by
  unfold fX6_neverEnds_120 at h
  refine g_iadd X dX6_neverEnds_120 ?_
  refine g_istore X (ls' := [(4, .int (s0 + s1)), (0, .ref (r 0)), (1, .int x1), (2, .int x2), (3, .int x3), (5, .int x5), (6, .int x6), (7, .int x7)]) dX6_neverEnds_121 (by decide) rfl ?_
  refine g_iload X dX6_neverEnds_123 5 rfl ?_
  refine g_aload_n X dX6_neverEnds_125 rfl 1 rfl ?_
  refine g_get X fl6_16 hNM_0 (shM_0 _) rfl dX6_neverEnds_126 ?_
  refine g_iload X dX6_neverEnds_129 6 rfl ?_
  obtain ⟨c, h⟩ := gGd h
  refine g_iald X hNM_3 (shM_3 _) rfl (gin_in c) dX6_neverEnds_131 ?_
  refine g_iconst X 3 dX6_neverEnds_132 (by decide) ?_
  refine g_icmp_ne X 148 dX6_neverEnds_133 (by decide) (fun c => ?_) (fun c => ?_)
  · replace h := gF c h
    refine g_iconst X 0 dX6_neverEnds_148 (by decide) ?_
    refine g_sub X [1, 2, 3, 4, 0, 6] (ls' := [(0, .ref (r 0)), (1, .int x1), (2, .int x2), (3, .int x3), (4, .int (s0 + s1)), (6, .int x6)]) rfl ?_
    exact bX6_neverEnds_149 X K13 _ _ _ _ _ _ _ _  h
  · replace h := gTr c h
    refine g_iload X dX6_neverEnds_136 7 rfl ?_
    refine g_aload_n X dX6_neverEnds_138 rfl 1 rfl ?_
    refine g_iload X dX6_neverEnds_139 6 rfl ?_
    obtain ⟨y16, v17, hc18, h⟩ := gB_inv h
    refine g_callV X (st := [.int x7, .int x5]) (st' := [.int y16, .int x7, .int x5]) kcX6_takes kvX6_takes kl6_168 (⟨rfl, rfl, by decide, by decide⟩) (mX6_takes hc18) hNM_0 (shM_0 _) rfl rfl rfl (Nat.le_of_ble_eq_true rfl) rfl dX6_neverEnds_141 ?_
    refine g_imul X dX6_neverEnds_144 ?_
    refine g_goto X 149 dX6_neverEnds_145 (by decide) ?_
    refine g_sub X [1, 2, 3, 4, 0, 6] (ls' := [(0, .ref (r 0)), (1, .int x1), (2, .int x2), (3, .int x3), (4, .int (s0 + s1)), (6, .int x6)]) rfl ?_
    exact bX6_neverEnds_149 X K13 _ _ _ _ _ _ _ _  h

set_option maxHeartbeats 4000000 in
set_option maxRecDepth 100000 in
theorem bX6_neverEnds_92 {l : Launch} {D : va_G} {cA : Nat → ClassId} {r : Nat → Nat} {G : gG} {xr : Int32} {v' : gV} {k13 : gV → Int32 → Int32 → Int32 → Int32 → Int32 → Int32 → Option (Int32 × gV)} (X : XM l D cA r RX6 cX6_neverEnds 8 (some .boolean) rmX6_neverEnds (some (.int xr)) v' G) (K13 : ∀ (v : gV) (x1 : Int32) (x2 : Int32) (x3 : Int32) (x4 : Int32) (x5 : Int32) (x6 : Int32), k13 v x1 x2 x3 x4 x5 x6 = some (xr, v') → G v [(0, .ref (r 0)), (1, .int x1), (2, .int x2), (3, .int x3), (4, .int x4), (5, .int x5), (6, .int x6)] 13 []) (v : gV) (x1 : Int32) (x2 : Int32) (x4 : Int32) (x5 : Int32) (x6 : Int32) (x7 : Int32) (s0 : Int32) (s1 : Int32) (h : fX6_neverEnds_92 k13 v x1 x2 x4 x5 x6 x7 s0 s1 = some (xr, v')) : G v [(0, .ref (r 0)), (1, .int x1), (2, .int x2), (4, .int x4), (5, .int x5), (6, .int x6), (7, .int x7)] 92 [.int s1, .int s0] := by
  unfold fX6_neverEnds_92 at h
  refine g_iadd X dX6_neverEnds_92 ?_
  refine g_istore_n X (ls' := [(3, .int (s0 + s1)), (0, .ref (r 0)), (1, .int x1), (2, .int x2), (4, .int x4), (5, .int x5), (6, .int x6), (7, .int x7)]) dX6_neverEnds_93 rfl (by decide) rfl ?_
  refine g_iload X dX6_neverEnds_94 4 rfl ?_
  refine g_aload_n X dX6_neverEnds_96 rfl 1 rfl ?_
  refine g_get X fl6_16 hNM_0 (shM_0 _) rfl dX6_neverEnds_97 ?_
  refine g_iload X dX6_neverEnds_100 6 rfl ?_
  obtain ⟨c, h⟩ := gGd h
  refine g_iald X hNM_3 (shM_3 _) rfl (gin_in c) dX6_neverEnds_102 ?_
  refine g_iconst X 2 dX6_neverEnds_103 (by decide) ?_
  refine g_icmp_ne X 119 dX6_neverEnds_104 (by decide) (fun c => ?_) (fun c => ?_)
  · replace h := gF c h
    refine g_iconst X 0 dX6_neverEnds_119 (by decide) ?_
    refine g_sub X [1, 2, 3, 0, 5, 6, 7] (ls' := [(0, .ref (r 0)), (1, .int x1), (2, .int x2), (3, .int (s0 + s1)), (5, .int x5), (6, .int x6), (7, .int x7)]) rfl ?_
    exact bX6_neverEnds_120 X K13 _ _ _ _ _ _ _ _ _  h
  · replace h := gTr c h
    refine g_iload X dX6_neverEnds_107 7 rfl ?_
    refine g_aload_n X dX6_neverEnds_109 rfl 1 rfl ?_
    refine g_iload X dX6_neverEnds_110 6 rfl ?_
    obtain ⟨y13, v14, hc15, h⟩ := gB_inv h
    refine g_callV X (st := [.int x7, .int x4]) (st' := [.int y13, .int x7, .int x4]) kcX6_takes kvX6_takes kl6_168 (⟨rfl, rfl, by decide, by decide⟩) (mX6_takes hc15) hNM_0 (shM_0 _) rfl rfl rfl (Nat.le_of_ble_eq_true rfl) rfl dX6_neverEnds_112 ?_
    refine g_imul X dX6_neverEnds_115 ?_
    refine g_goto X 120 dX6_neverEnds_116 (by decide) ?_
    refine g_sub X [1, 2, 3, 0, 5, 6, 7] (ls' := [(0, .ref (r 0)), (1, .int x1), (2, .int x2), (3, .int (s0 + s1)), (5, .int x5), (6, .int x6), (7, .int x7)]) rfl ?_
    exact bX6_neverEnds_120 X K13 _ _ _ _ _ _ _ _ _  h

set_option maxHeartbeats 4000000 in
set_option maxRecDepth 100000 in
theorem bX6_neverEnds_55 {l : Launch} {D : va_G} {cA : Nat → ClassId} {r : Nat → Nat} {G : gG} {xr : Int32} {v' : gV} {k13 : gV → Int32 → Int32 → Int32 → Int32 → Int32 → Int32 → Option (Int32 × gV)} (X : XM l D cA r RX6 cX6_neverEnds 8 (some .boolean) rmX6_neverEnds (some (.int xr)) v' G) (K13 : ∀ (v : gV) (x1 : Int32) (x2 : Int32) (x3 : Int32) (x4 : Int32) (x5 : Int32) (x6 : Int32), k13 v x1 x2 x3 x4 x5 x6 = some (xr, v') → G v [(0, .ref (r 0)), (1, .int x1), (2, .int x2), (3, .int x3), (4, .int x4), (5, .int x5), (6, .int x6)] 13 []) (v : gV) (x1 : Int32) (x2 : Int32) (x3 : Int32) (x4 : Int32) (x5 : Int32) (x6 : Int32) (x7 : Int32) (h : fX6_neverEnds_55 k13 v x1 x2 x3 x4 x5 x6 x7 = some (xr, v')) : G v [(0, .ref (r 0)), (1, .int x1), (2, .int x2), (3, .int x3), (4, .int x4), (5, .int x5), (6, .int x6), (7, .int x7)] 55 [] := by
  unfold fX6_neverEnds_55 at h
  refine g_iload_n X dX6_neverEnds_55 rfl 2 rfl ?_
  refine g_iload X dX6_neverEnds_56 7 rfl ?_
  refine g_aload_n X dX6_neverEnds_58 rfl 0 rfl ?_
  refine g_iload X dX6_neverEnds_59 6 rfl ?_
  obtain ⟨y7, v8, hc9, h⟩ := gB_inv h
  refine g_callV X (st := [.int x7, .int x2]) (st' := [.int y7, .int x7, .int x2]) kcX6_gives kvX6_gives kl6_171 (⟨rfl, rfl, by decide, by decide⟩) (mX6_gives hc9) hNM_0 (shM_0 _) rfl rfl rfl (Nat.le_of_ble_eq_true rfl) rfl dX6_neverEnds_61 ?_
  refine g_imul X dX6_neverEnds_64 ?_
  refine g_iadd X dX6_neverEnds_65 ?_
  refine g_istore_n X (ls' := [(2, .int (x2 + (x7 * y7))), (0, .ref (r 0)), (1, .int x1), (3, .int x3), (4, .int x4), (5, .int x5), (6, .int x6), (7, .int x7)]) dX6_neverEnds_66 rfl (by decide) rfl ?_
  refine g_iload_n X dX6_neverEnds_67 rfl 3 rfl ?_
  refine g_aload_n X dX6_neverEnds_68 rfl 1 rfl ?_
  refine g_get X fl6_16 hNM_0 (shM_0 _) rfl dX6_neverEnds_69 ?_
  refine g_iload X dX6_neverEnds_72 6 rfl ?_
  obtain ⟨c, h⟩ := gGd h
  refine g_iald X hNM_3 (shM_3 _) rfl (gin_in c) dX6_neverEnds_74 ?_
  refine g_iconst X 1 dX6_neverEnds_75 (by decide) ?_
  refine g_icmp_ne X 91 dX6_neverEnds_76 (by decide) (fun c => ?_) (fun c => ?_)
  · replace h := gF c h
    refine g_iconst X 0 dX6_neverEnds_91 (by decide) ?_
    refine g_sub X [1, 2, 0, 4, 5, 6, 7] (ls' := [(0, .ref (r 0)), (1, .int x1), (2, .int (x2 + (x7 * y7))), (4, .int x4), (5, .int x5), (6, .int x6), (7, .int x7)]) rfl ?_
    exact bX6_neverEnds_92 X K13 _ _ _ _ _ _ _ _ _  h
  · replace h := gTr c h
    refine g_iload X dX6_neverEnds_79 7 rfl ?_
    refine g_aload_n X dX6_neverEnds_81 rfl 1 rfl ?_
    refine g_iload X dX6_neverEnds_82 6 rfl ?_
    obtain ⟨y10, v11, hc12, h⟩ := gB_inv h
    refine g_callV X (st := [.int x7, .int x3]) (st' := [.int y10, .int x7, .int x3]) kcX6_takes kvX6_takes kl6_168 (⟨rfl, rfl, by decide, by decide⟩) (mX6_takes hc12) hNM_0 (shM_0 _) rfl rfl rfl (Nat.le_of_ble_eq_true rfl) rfl dX6_neverEnds_84 ?_
    refine g_imul X dX6_neverEnds_87 ?_
    refine g_goto X 92 dX6_neverEnds_88 (by decide) ?_
    refine g_sub X [1, 2, 0, 4, 5, 6, 7] (ls' := [(0, .ref (r 0)), (1, .int x1), (2, .int (x2 + (x7 * y7))), (4, .int x4), (5, .int x5), (6, .int x6), (7, .int x7)]) rfl ?_
    exact bX6_neverEnds_92 X K13 _ _ _ _ _ _ _ _ _  h

set_option maxHeartbeats 4000000 in
set_option maxRecDepth 100000 in
theorem bX6_neverEnds_13 {l : Launch} {D : va_G} {cA : Nat → ClassId} {r : Nat → Nat} {G : gG} {xr : Int32} {v' : gV} (X : XM l D cA r RX6 cX6_neverEnds 8 (some .boolean) rmX6_neverEnds (some (.int xr)) v' G) : ∀ (n : Nat) (v : gV) (x1 : Int32) (x2 : Int32) (x3 : Int32) (x4 : Int32) (x5 : Int32) (x6 : Int32), fX6_neverEnds_13 n v x1 x2 x3 x4 x5 x6 = some (xr, v') → G v [(0, .ref (r 0)), (1, .int x1), (2, .int x2), (3, .int x3), (4, .int x4), (5, .int x5), (6, .int x6)] 13 [] := by
  intro n
  induction n with
  | zero => intro v x1 x2 x3 x4 x5 x6 h; rw [fX6_neverEnds_13] at h; cases h
  | succ n ih =>
    intro v x1 x2 x3 x4 x5 x6 h
    rw [fX6_neverEnds_13] at h
    refine g_iload X dX6_neverEnds_13 6 rfl ?_
    refine g_aload_n X dX6_neverEnds_15 rfl 0 rfl ?_
    refine g_get X fl6_75 hNM_0 (shM_0 _) rfl dX6_neverEnds_16 ?_
    refine g_icmp_ge X 158 dX6_neverEnds_19 (by decide) (fun c => ?_) (fun c => ?_)
    · replace h := gTr c h
      refine g_iload_n X dX6_neverEnds_158 rfl 2 rfl ?_
      refine g_if_le X 189 dX6_neverEnds_159 (by decide) (fun c => ?_) (fun c => ?_)
      · replace h := gTr c h
        refine g_iconst X 0 dX6_neverEnds_189 (by decide) ?_
        exact g_zretR X (Or.inl rfl) h dX6_neverEnds_190
      · replace h := gF c h
        refine g_iload_n X dX6_neverEnds_162 rfl 3 rfl ?_
        refine g_iload_n X dX6_neverEnds_163 rfl 2 rfl ?_
        refine g_aload_n X dX6_neverEnds_164 rfl 0 rfl ?_
        refine g_iconst X 0 dX6_neverEnds_165 (by decide) ?_
        obtain ⟨y1, v2, hc3, h⟩ := gB_inv h
        refine g_callV X (st := [.int x2, .int x3]) (st' := [.int y1, .int x2, .int x3]) kcX6_asksOf kvX6_asksOf kl6_158 (⟨rfl, rfl, by decide, by decide⟩) (mX6_asksOf hc3) hNM_0 (shM_0 _) rfl rfl rfl (Nat.le_of_ble_eq_true rfl) rfl dX6_neverEnds_166 ?_
        refine g_imul X dX6_neverEnds_169 ?_
        refine g_icmp_gt X 189 dX6_neverEnds_170 (by decide) (fun c => ?_) (fun c => ?_)
        · replace h := gTr c h
          refine g_iconst X 0 dX6_neverEnds_189 (by decide) ?_
          exact g_zretR X (Or.inl rfl) h dX6_neverEnds_190
        · replace h := gF c h
          refine g_iload X dX6_neverEnds_173 4 rfl ?_
          refine g_iload_n X dX6_neverEnds_175 rfl 2 rfl ?_
          refine g_icmp_gt X 189 dX6_neverEnds_176 (by decide) (fun c => ?_) (fun c => ?_)
          · replace h := gTr c h
            refine g_iconst X 0 dX6_neverEnds_189 (by decide) ?_
            exact g_zretR X (Or.inl rfl) h dX6_neverEnds_190
          · replace h := gF c h
            refine g_iload X dX6_neverEnds_179 5 rfl ?_
            refine g_iload_n X dX6_neverEnds_181 rfl 2 rfl ?_
            refine g_icmp_gt X 189 dX6_neverEnds_182 (by decide) (fun c => ?_) (fun c => ?_)
            · replace h := gTr c h
              refine g_iconst X 0 dX6_neverEnds_189 (by decide) ?_
              exact g_zretR X (Or.inl rfl) h dX6_neverEnds_190
            · replace h := gF c h
              refine g_iconst X 1 dX6_neverEnds_185 (by decide) ?_
              refine g_goto X 190 dX6_neverEnds_186 (by decide) ?_
              exact g_zretR X (Or.inr rfl) h dX6_neverEnds_190
    · replace h := gF c h
      refine g_iload_n X dX6_neverEnds_22 rfl 1 rfl ?_
      refine g_iconst X 2 dX6_neverEnds_23 (by decide) ?_
      refine g_aload_n X dX6_neverEnds_24 rfl 0 rfl ?_
      refine g_get X fl6_75 hNM_0 (shM_0 _) rfl dX6_neverEnds_25 ?_
      refine g_iconst X 1 dX6_neverEnds_28 (by decide) ?_
      refine g_isub X dX6_neverEnds_29 ?_
      refine g_iload X dX6_neverEnds_30 6 rfl ?_
      refine g_isub X dX6_neverEnds_32 ?_
      refine g_imul X dX6_neverEnds_33 ?_
      refine g_ishr X dX6_neverEnds_34 ?_
      refine g_iconst X 3 dX6_neverEnds_35 (by decide) ?_
      refine g_iand X dX6_neverEnds_36 ?_
      refine g_istore X (ls' := [(7, .int ((x1 >>> ((2 * (((v 0 1) - 1) - x6)) &&& 31)) &&& 3)), (0, .ref (r 0)), (1, .int x1), (2, .int x2), (3, .int x3), (4, .int x4), (5, .int x5), (6, .int x6)]) dX6_neverEnds_37 (by decide) rfl ?_
      refine g_iload X dX6_neverEnds_39 0 rfl ?_
      refine g_if_le X 55 dX6_neverEnds_41 (by decide) (fun c => ?_) (fun c => ?_)
      · replace h := gTr c h
        refine g_sub X [1, 2, 3, 4, 5, 6, 7, 0] (ls' := [(0, .ref (r 0)), (1, .int x1), (2, .int x2), (3, .int x3), (4, .int x4), (5, .int x5), (6, .int x6), (7, .int ((x1 >>> ((2 * (((v 0 1) - 1) - x6)) &&& 31)) &&& 3))]) rfl ?_
        exact bX6_neverEnds_55 X ih _ _ _ _ _ _ _ _  h
      · replace h := gF c h
        refine g_aload_n X dX6_neverEnds_44 rfl 1 rfl ?_
        refine g_iload X dX6_neverEnds_45 7 rfl ?_
        obtain ⟨y4, v5, hc6, h⟩ := gB_inv h
        refine g_callV X (st := []) (st' := [.int y4]) kcX6_gives kvX6_gives kl6_171 (⟨rfl, rfl, by decide, by decide⟩) (mX6_gives hc6) hNM_0 (shM_0 _) rfl rfl rfl (Nat.le_of_ble_eq_true rfl) rfl dX6_neverEnds_47 ?_
        refine g_if_ne X 55 dX6_neverEnds_50 (by decide) (fun c => ?_) (fun c => ?_)
        · replace h := gF c h
          refine g_sub X [1, 2, 3, 4, 5, 6, 7, 0] (ls' := [(0, .ref (r 0)), (1, .int x1), (2, .int x2), (3, .int x3), (4, .int x4), (5, .int x5), (6, .int x6), (7, .int ((x1 >>> ((2 * (((v 0 1) - 1) - x6)) &&& 31)) &&& 3))]) rfl ?_
          exact bX6_neverEnds_55 X ih _ _ _ _ _ _ _ _  h
        · replace h := gTr c h
          refine g_iconst X 0 dX6_neverEnds_53 (by decide) ?_
          exact g_zretR X (Or.inl rfl) h dX6_neverEnds_54

set_option maxHeartbeats 4000000 in
set_option maxRecDepth 100000 in
theorem bX6_neverEnds_0 {l : Launch} {D : va_G} {cA : Nat → ClassId} {r : Nat → Nat} {G : gG} {xr : Int32} {v' : gV} (X : XM l D cA r RX6 cX6_neverEnds 8 (some .boolean) rmX6_neverEnds (some (.int xr)) v' G) (v : gV) (x1 : Int32) (h : fX6_neverEnds v x1 = some (xr, v')) : G v [(0, .ref (r 0)), (1, .int x1)] 0 [] := by
  unfold fX6_neverEnds at h
  refine g_iconst X 0 dX6_neverEnds_0 (by decide) ?_
  refine g_istore_n X (ls' := [(2, .int 0), (0, .ref (r 0)), (1, .int x1)]) dX6_neverEnds_1 rfl (by decide) rfl ?_
  refine g_iconst X 0 dX6_neverEnds_2 (by decide) ?_
  refine g_istore_n X (ls' := [(3, .int 0), (2, .int 0), (0, .ref (r 0)), (1, .int x1)]) dX6_neverEnds_3 rfl (by decide) rfl ?_
  refine g_iconst X 0 dX6_neverEnds_4 (by decide) ?_
  refine g_istore X (ls' := [(4, .int 0), (3, .int 0), (2, .int 0), (0, .ref (r 0)), (1, .int x1)]) dX6_neverEnds_5 (by decide) rfl ?_
  refine g_iconst X 0 dX6_neverEnds_7 (by decide) ?_
  refine g_istore X (ls' := [(5, .int 0), (4, .int 0), (3, .int 0), (2, .int 0), (0, .ref (r 0)), (1, .int x1)]) dX6_neverEnds_8 (by decide) rfl ?_
  refine g_iconst X 0 dX6_neverEnds_10 (by decide) ?_
  refine g_istore X (ls' := [(6, .int 0), (5, .int 0), (4, .int 0), (3, .int 0), (2, .int 0), (0, .ref (r 0)), (1, .int x1)]) dX6_neverEnds_11 (by decide) rfl ?_
  refine g_sub X [5, 6, 4, 3, 2, 1, 0] (ls' := [(0, .ref (r 0)), (1, .int x1), (2, .int 0), (3, .int 0), (4, .int 0), (5, .int 0), (6, .int 0)]) rfl ?_
  exact bX6_neverEnds_13 X  _ _ _ _ _ _ _ _  h

theorem mX6_neverEnds {l : Launch} {D : va_G} {cA : Nat → ClassId} {r : Nat → Nat} {v : gV} {x1 : Int32} {xr : Int32} {v' : gV} (h : fX6_neverEnds v x1 = some (xr, v')) : Ct l D (tysM cA) (shM cA r) 19 r (ZM r) yX6_neverEnds cX6_neverEnds 8 (some .boolean) rmX6_neverEnds [.ref (r 0), .int x1] v (some (.int xr)) v' := ct_of plX6 ZM_ok (Nat.le_of_ble_eq_true rfl) rfl (fun _ X => bX6_neverEnds_0 X v x1 h)

def rmX6_rowDigits : Room := { frames := 0, cells := 0, slots := 0, locals := 0 }

set_option maxHeartbeats 4000000 in
set_option maxRecDepth 100000 in
theorem bX6_rowDigits_4 {l : Launch} {D : va_G} {cA : Nat → ClassId} {r : Nat → Nat} {G : gG} {xr : Int32} {v' : gV} (X : XM l D cA r RX6 cX6_rowDigits 4 (some .int) rmX6_rowDigits (some (.int xr)) v' G) : ∀ (n : Nat) (v : gV) (x1 : Int32) (x2 : Int32) (x3 : Int32), fX6_rowDigits_4 n v x1 x2 x3 = some (xr, v') → G v [(0, .ref (r 0)), (1, .int x1), (2, .int x2), (3, .int x3)] 4 [] := by
  intro n
  induction n with
  | zero => intro v x1 x2 x3 h; rw [fX6_rowDigits_4] at h; cases h
  | succ n ih =>
    intro v x1 x2 x3 h
    rw [fX6_rowDigits_4] at h
    refine g_iload_n X dX6_rowDigits_4 rfl 3 rfl ?_
    refine g_aload_n X dX6_rowDigits_5 rfl 0 rfl ?_
    refine g_get X fl6_75 hNM_0 (shM_0 _) rfl dX6_rowDigits_6 ?_
    refine g_icmp_ge X 38 dX6_rowDigits_9 (by decide) (fun c => ?_) (fun c => ?_)
    · replace h := gTr c h
      refine g_iload_n X dX6_rowDigits_38 rfl 2 rfl ?_
      exact g_iretR X h dX6_rowDigits_39
    · replace h := gF c h
      refine g_bipush X 10 dX6_rowDigits_12 (by decide) ?_
      refine g_iload_n X dX6_rowDigits_14 rfl 2 rfl ?_
      refine g_imul X dX6_rowDigits_15 ?_
      refine g_iload_n X dX6_rowDigits_16 rfl 1 rfl ?_
      refine g_iconst X 2 dX6_rowDigits_17 (by decide) ?_
      refine g_aload_n X dX6_rowDigits_18 rfl 0 rfl ?_
      refine g_get X fl6_75 hNM_0 (shM_0 _) rfl dX6_rowDigits_19 ?_
      refine g_iconst X 1 dX6_rowDigits_22 (by decide) ?_
      refine g_isub X dX6_rowDigits_23 ?_
      refine g_iload_n X dX6_rowDigits_24 rfl 3 rfl ?_
      refine g_isub X dX6_rowDigits_25 ?_
      refine g_imul X dX6_rowDigits_26 ?_
      refine g_ishr X dX6_rowDigits_27 ?_
      refine g_iconst X 3 dX6_rowDigits_28 (by decide) ?_
      refine g_iand X dX6_rowDigits_29 ?_
      refine g_iadd X dX6_rowDigits_30 ?_
      refine g_istore_n X (ls' := [(2, .int ((10 * x2) + ((x1 >>> ((2 * (((v 0 1) - 1) - x3)) &&& 31)) &&& 3))), (0, .ref (r 0)), (1, .int x1), (3, .int x3)]) dX6_rowDigits_31 rfl (by decide) rfl ?_
      refine g_iinc X (x3 + 1) [(3, .int (x3 + 1)), (2, .int ((10 * x2) + ((x1 >>> ((2 * (((v 0 1) - 1) - x3)) &&& 31)) &&& 3))), (0, .ref (r 0)), (1, .int x1)] dX6_rowDigits_32 3 rfl rfl (by decide) rfl ?_
      refine g_goto X 4 dX6_rowDigits_35 (by decide) ?_
      refine g_sub X [2, 3, 1, 0] (ls' := [(0, .ref (r 0)), (1, .int x1), (2, .int ((10 * x2) + ((x1 >>> ((2 * (((v 0 1) - 1) - x3)) &&& 31)) &&& 3))), (3, .int (x3 + 1))]) rfl ?_
      exact ih _ _ _ _  h

set_option maxHeartbeats 4000000 in
set_option maxRecDepth 100000 in
theorem bX6_rowDigits_0 {l : Launch} {D : va_G} {cA : Nat → ClassId} {r : Nat → Nat} {G : gG} {xr : Int32} {v' : gV} (X : XM l D cA r RX6 cX6_rowDigits 4 (some .int) rmX6_rowDigits (some (.int xr)) v' G) (v : gV) (x1 : Int32) (h : fX6_rowDigits v x1 = some (xr, v')) : G v [(0, .ref (r 0)), (1, .int x1)] 0 [] := by
  unfold fX6_rowDigits at h
  refine g_iconst X 0 dX6_rowDigits_0 (by decide) ?_
  refine g_istore_n X (ls' := [(2, .int 0), (0, .ref (r 0)), (1, .int x1)]) dX6_rowDigits_1 rfl (by decide) rfl ?_
  refine g_iconst X 0 dX6_rowDigits_2 (by decide) ?_
  refine g_istore_n X (ls' := [(3, .int 0), (2, .int 0), (0, .ref (r 0)), (1, .int x1)]) dX6_rowDigits_3 rfl (by decide) rfl ?_
  refine g_sub X [2, 3, 1, 0] (ls' := [(0, .ref (r 0)), (1, .int x1), (2, .int 0), (3, .int 0)]) rfl ?_
  exact bX6_rowDigits_4 X  _ _ _ _ _  h

theorem mX6_rowDigits {l : Launch} {D : va_G} {cA : Nat → ClassId} {r : Nat → Nat} {v : gV} {x1 : Int32} {xr : Int32} {v' : gV} (h : fX6_rowDigits v x1 = some (xr, v')) : Ct l D (tysM cA) (shM cA r) 19 r (ZM r) yX6_rowDigits cX6_rowDigits 4 (some .int) rmX6_rowDigits [.ref (r 0), .int x1] v (some (.int xr)) v' := ct_of plX6 ZM_ok (Nat.le_of_ble_eq_true rfl) rfl (fun _ X => bX6_rowDigits_0 X v x1 h)

def rmX6_never : Room := { frames := 4, cells := 0, slots := 0, locals := 94 }

set_option maxHeartbeats 4000000 in
set_option maxRecDepth 100000 in
theorem bX6_never_60 {l : Launch} {D : va_G} {cA : Nat → ClassId} {r : Nat → Nat} {G : gG} {xr : Int32} {v' : gV} {k19 : gV → Int32 → Int32 → Int32 → Int32 → Option (Int32 × gV)} (X : XM l D cA r RX6 cX6_never 5 (some .int) rmX6_never (some (.int xr)) v' G) (K19 : ∀ (v : gV) (x1 : Int32) (x2 : Int32) (x3 : Int32) (x4 : Int32), k19 v x1 x2 x3 x4 = some (xr, v') → G v [(0, .ref (r 0)), (1, .int x1), (2, .int x2), (3, .int x3), (4, .int x4)] 19 []) (v : gV) (x1 : Int32) (x2 : Int32) (x3 : Int32) (x4 : Int32) (h : fX6_never_60 k19 v x1 x2 x3 x4 = some (xr, v')) : G v [(0, .ref (r 0)), (1, .int x1), (2, .int x2), (3, .int x3), (4, .int x4)] 60 [] := by
  unfold fX6_never_60 at h
  refine g_iinc X (x4 + 1) [(4, .int (x4 + 1)), (0, .ref (r 0)), (1, .int x1), (2, .int x2), (3, .int x3)] dX6_never_60 4 rfl rfl (by decide) rfl ?_
  refine g_goto X 19 dX6_never_63 (by decide) ?_
  refine g_sub X [1, 2, 3, 4, 0] (ls' := [(0, .ref (r 0)), (1, .int x1), (2, .int x2), (3, .int x3), (4, .int (x4 + 1))]) rfl ?_
  exact K19 _ _ _ _ _  h

set_option maxHeartbeats 4000000 in
set_option maxRecDepth 100000 in
theorem bX6_never_56 {l : Launch} {D : va_G} {cA : Nat → ClassId} {r : Nat → Nat} {G : gG} {xr : Int32} {v' : gV} {k19 : gV → Int32 → Int32 → Int32 → Int32 → Option (Int32 × gV)} (X : XM l D cA r RX6 cX6_never 5 (some .int) rmX6_never (some (.int xr)) v' G) (K19 : ∀ (v : gV) (x1 : Int32) (x2 : Int32) (x3 : Int32) (x4 : Int32), k19 v x1 x2 x3 x4 = some (xr, v') → G v [(0, .ref (r 0)), (1, .int x1), (2, .int x2), (3, .int x3), (4, .int x4)] 19 []) (v : gV) (x1 : Int32) (x3 : Int32) (x4 : Int32) (s0 : Int32) (h : fX6_never_56 k19 v x1 x3 x4 s0 = some (xr, v')) : G v [(0, .ref (r 0)), (1, .int x1), (3, .int x3), (4, .int x4)] 56 [.int s0] := by
  unfold fX6_never_56 at h
  refine g_istore_n X (ls' := [(2, .int s0), (0, .ref (r 0)), (1, .int x1), (3, .int x3), (4, .int x4)]) dX6_never_56 rfl (by decide) rfl ?_
  refine g_iinc X (x3 + 1) [(3, .int (x3 + 1)), (2, .int s0), (0, .ref (r 0)), (1, .int x1), (4, .int x4)] dX6_never_57 3 rfl rfl (by decide) rfl ?_
  refine g_sub X [2, 3, 1, 0, 4] (ls' := [(0, .ref (r 0)), (1, .int x1), (2, .int s0), (3, .int (x3 + 1)), (4, .int x4)]) rfl ?_
  exact bX6_never_60 X K19 _ _ _ _ _  h

set_option maxHeartbeats 4000000 in
set_option maxRecDepth 100000 in
theorem bX6_never_19 {l : Launch} {D : va_G} {cA : Nat → ClassId} {r : Nat → Nat} {G : gG} {xr : Int32} {v' : gV} (X : XM l D cA r RX6 cX6_never 5 (some .int) rmX6_never (some (.int xr)) v' G) : ∀ (n : Nat) (v : gV) (x1 : Int32) (x2 : Int32) (x3 : Int32) (x4 : Int32), fX6_never_19 n v x1 x2 x3 x4 = some (xr, v') → G v [(0, .ref (r 0)), (1, .int x1), (2, .int x2), (3, .int x3), (4, .int x4)] 19 [] := by
  intro n
  induction n with
  | zero => intro v x1 x2 x3 x4 h; rw [fX6_never_19] at h; cases h
  | succ n ih =>
    intro v x1 x2 x3 x4 h
    rw [fX6_never_19] at h
    refine g_iload X dX6_never_19 4 rfl ?_
    refine g_iconst X 1 dX6_never_21 (by decide) ?_
    refine g_iconst X 2 dX6_never_22 (by decide) ?_
    refine g_aload_n X dX6_never_23 rfl 0 rfl ?_
    refine g_get X fl6_75 hNM_0 (shM_0 _) rfl dX6_never_24 ?_
    refine g_imul X dX6_never_27 ?_
    refine g_ishl X dX6_never_28 ?_
    refine g_icmp_ge X 66 dX6_never_29 (by decide) (fun c => ?_) (fun c => ?_)
    · replace h := gTr c h
      refine g_iload_n X dX6_never_66 rfl 1 rfl ?_
      refine g_if_ne X 74 dX6_never_67 (by decide) (fun c => ?_) (fun c => ?_)
      · replace h := gF c h
        refine g_iload_n X dX6_never_74 rfl 3 rfl ?_
        exact g_iretR X h dX6_never_75
      · replace h := gTr c h
        refine g_iload_n X dX6_never_70 rfl 2 rfl ?_
        refine g_goto X 75 dX6_never_71 (by decide) ?_
        exact g_iretR X h dX6_never_75
    · replace h := gF c h
      refine g_aload_n X dX6_never_32 rfl 0 rfl ?_
      refine g_iload X dX6_never_33 4 rfl ?_
      obtain ⟨y4, v5, hc6, h⟩ := gB_inv h
      refine g_callV X (st := []) (st' := [.int y4]) kcX6_neverEnds kvX6_neverEnds kl6_230 (⟨rfl, rfl, by decide, by decide⟩) (mX6_neverEnds hc6) hNM_0 (shM_0 _) rfl rfl rfl (Nat.le_of_ble_eq_true rfl) rfl dX6_never_35 ?_
      refine g_if_eq X 60 dX6_never_38 (by decide) (fun c => ?_) (fun c => ?_)
      · replace h := gTr c h
        exact bX6_never_60 X ih _ _ _ _ _  h
      · replace h := gF c h
        refine g_iload_n X dX6_never_41 rfl 2 rfl ?_
        refine g_iconst X (-1) dX6_never_42 (by decide) ?_
        refine g_icmp_ne X 55 dX6_never_43 (by decide) (fun c => ?_) (fun c => ?_)
        · replace h := gF c h
          refine g_iload_n X dX6_never_55 rfl 2 rfl ?_
          refine g_sub X [0, 1, 3, 4] (ls' := [(0, .ref (r 0)), (1, .int x1), (3, .int x3), (4, .int x4)]) rfl ?_
          exact bX6_never_56 X ih _ _ _ _ _  h
        · replace h := gTr c h
          refine g_aload_n X dX6_never_46 rfl 0 rfl ?_
          refine g_iload X dX6_never_47 4 rfl ?_
          obtain ⟨y7, v8, hc9, h⟩ := gB_inv h
          refine g_callV X (st := []) (st' := [.int y7]) kcX6_rowDigits kvX6_rowDigits kl6_233 (⟨rfl, rfl, by decide, by decide⟩) (mX6_rowDigits hc9) hNM_0 (shM_0 _) rfl rfl rfl (Nat.le_of_ble_eq_true rfl) rfl dX6_never_49 ?_
          refine g_goto X 56 dX6_never_52 (by decide) ?_
          refine g_sub X [0, 1, 3, 4] (ls' := [(0, .ref (r 0)), (1, .int x1), (3, .int x3), (4, .int x4)]) rfl ?_
          exact bX6_never_56 X ih _ _ _ _ _  h

set_option maxHeartbeats 4000000 in
set_option maxRecDepth 100000 in
theorem bX6_never_0 {l : Launch} {D : va_G} {cA : Nat → ClassId} {r : Nat → Nat} {G : gG} {xr : Int32} {v' : gV} (X : XM l D cA r RX6 cX6_never 5 (some .int) rmX6_never (some (.int xr)) v' G) (v : gV) (x1 : Int32) (h : fX6_never v x1 = some (xr, v')) : G v [(0, .ref (r 0)), (1, .int x1)] 0 [] := by
  unfold fX6_never at h
  refine g_iload_n X dX6_never_0 rfl 1 rfl ?_
  refine g_iconst X 0 dX6_never_1 (by decide) ?_
  refine g_iconst X 1 dX6_never_2 (by decide) ?_
  obtain ⟨y1, v2, hc3, h⟩ := gB_inv h
  refine g_callS X (st := []) (st' := [.int y1]) kcX6_in ktX6_in kl6_78 (⟨rfl, rfl, by decide, by decide⟩) (mX6_in hc3) rfl rfl (Nat.le_of_ble_eq_true rfl) rfl dX6_never_3 ?_
  refine g_if_ne X 12 dX6_never_6 (by decide) (fun c => ?_) (fun c => ?_)
  · replace h := gF c h
    refine g_iconst X (-1) dX6_never_12 (by decide) ?_
    refine g_istore_n X (ls' := [(2, .int (-1)), (0, .ref (r 0)), (1, .int x1)]) dX6_never_13 rfl (by decide) rfl ?_
    refine g_iconst X 0 dX6_never_14 (by decide) ?_
    refine g_istore_n X (ls' := [(3, .int 0), (2, .int (-1)), (0, .ref (r 0)), (1, .int x1)]) dX6_never_15 rfl (by decide) rfl ?_
    refine g_iconst X 1 dX6_never_16 (by decide) ?_
    refine g_istore X (ls' := [(4, .int 1), (3, .int 0), (2, .int (-1)), (0, .ref (r 0)), (1, .int x1)]) dX6_never_17 (by decide) rfl ?_
    refine g_sub X [3, 4, 2, 1, 0] (ls' := [(0, .ref (r 0)), (1, .int x1), (2, .int (-1)), (3, .int 0), (4, .int 1)]) rfl ?_
    exact bX6_never_19 X  _ _ _ _ _ _  h
  · replace h := gTr c h
    refine g_bipush X (-2) dX6_never_9 (by decide) ?_
    exact g_iretR X h dX6_never_11

theorem mX6_never {l : Launch} {D : va_G} {cA : Nat → ClassId} {r : Nat → Nat} {v : gV} {x1 : Int32} {xr : Int32} {v' : gV} (h : fX6_never v x1 = some (xr, v')) : Ct l D (tysM cA) (shM cA r) 19 r (ZM r) yX6_never cX6_never 5 (some .int) rmX6_never [.ref (r 0), .int x1] v (some (.int xr)) v' := ct_of plX6 ZM_ok (Nat.le_of_ble_eq_true rfl) rfl (fun _ X => bX6_never_0 X v x1 h)

def rmX6_when : Room := { frames := 8, cells := 0, slots := 0, locals := 177 }

set_option maxHeartbeats 4000000 in
set_option maxRecDepth 100000 in
theorem bX6_when_86 {l : Launch} {D : va_G} {cA : Nat → ClassId} {r : Nat → Nat} {G : gG} {xr : Int32} {v' : gV} {k28 : gV → Int32 → Int32 → Int32 → Int32 → Int32 → Option (Int32 × gV)} (X : XM l D cA r RX6 cX6_when 7 (some .int) rmX6_when (some (.int xr)) v' G) (K28 : ∀ (v : gV) (x1 : Int32) (x2 : Int32) (x3 : Int32) (x4 : Int32) (x5 : Int32), k28 v x1 x2 x3 x4 x5 = some (xr, v') → G v [(0, .ref (r 0)), (1, .int x1), (2, .int x2), (3, .int x3), (4, .int x4), (5, .int x5)] 28 []) (v : gV) (x1 : Int32) (x2 : Int32) (x3 : Int32) (x5 : Int32) (s0 : Int32) (h : fX6_when_86 k28 v x1 x2 x3 x5 s0 = some (xr, v')) : G v [(0, .ref (r 0)), (1, .int x1), (2, .int x2), (3, .int x3), (5, .int x5)] 86 [.int s0] := by
  unfold fX6_when_86 at h
  refine g_istore X (ls' := [(4, .int s0), (0, .ref (r 0)), (1, .int x1), (2, .int x2), (3, .int x3), (5, .int x5)]) dX6_when_86 (by decide) rfl ?_
  refine g_iinc X (x5 + 1) [(5, .int (x5 + 1)), (4, .int s0), (0, .ref (r 0)), (1, .int x1), (2, .int x2), (3, .int x3)] dX6_when_88 5 rfl rfl (by decide) rfl ?_
  refine g_goto X 28 dX6_when_91 (by decide) ?_
  refine g_sub X [2, 3, 4, 5, 1, 0] (ls' := [(0, .ref (r 0)), (1, .int x1), (2, .int x2), (3, .int x3), (4, .int s0), (5, .int (x5 + 1))]) rfl ?_
  exact K28 _ _ _ _ _ _  h

set_option maxHeartbeats 4000000 in
set_option maxRecDepth 100000 in
theorem bX6_when_71 {l : Launch} {D : va_G} {cA : Nat → ClassId} {r : Nat → Nat} {G : gG} {xr : Int32} {v' : gV} {k28 : gV → Int32 → Int32 → Int32 → Int32 → Int32 → Option (Int32 × gV)} (X : XM l D cA r RX6 cX6_when 7 (some .int) rmX6_when (some (.int xr)) v' G) (K28 : ∀ (v : gV) (x1 : Int32) (x2 : Int32) (x3 : Int32) (x4 : Int32) (x5 : Int32), k28 v x1 x2 x3 x4 x5 = some (xr, v') → G v [(0, .ref (r 0)), (1, .int x1), (2, .int x2), (3, .int x3), (4, .int x4), (5, .int x5)] 28 []) (v : gV) (x1 : Int32) (x2 : Int32) (x4 : Int32) (x5 : Int32) (x6 : Int32) (s0 : Int32) (h : fX6_when_71 k28 v x1 x2 x4 x5 x6 s0 = some (xr, v')) : G v [(0, .ref (r 0)), (1, .int x1), (2, .int x2), (4, .int x4), (5, .int x5), (6, .int x6)] 71 [.int s0] := by
  unfold fX6_when_71 at h
  refine g_istore_n X (ls' := [(3, .int s0), (0, .ref (r 0)), (1, .int x1), (2, .int x2), (4, .int x4), (5, .int x5), (6, .int x6)]) dX6_when_71 rfl (by decide) rfl ?_
  refine g_iload X dX6_when_72 6 rfl ?_
  refine g_iload X dX6_when_74 4 rfl ?_
  refine g_icmp_le X 84 dX6_when_76 (by decide) (fun c => ?_) (fun c => ?_)
  · replace h := gTr c h
    refine g_iload X dX6_when_84 4 rfl ?_
    refine g_sub X [1, 2, 3, 0, 5] (ls' := [(0, .ref (r 0)), (1, .int x1), (2, .int x2), (3, .int s0), (5, .int x5)]) rfl ?_
    exact bX6_when_86 X K28 _ _ _ _ _ _  h
  · replace h := gF c h
    refine g_iload X dX6_when_79 6 rfl ?_
    refine g_goto X 86 dX6_when_81 (by decide) ?_
    refine g_sub X [1, 2, 3, 0, 5] (ls' := [(0, .ref (r 0)), (1, .int x1), (2, .int x2), (3, .int s0), (5, .int x5)]) rfl ?_
    exact bX6_when_86 X K28 _ _ _ _ _ _  h

set_option maxHeartbeats 4000000 in
set_option maxRecDepth 100000 in
theorem bX6_when_28 {l : Launch} {D : va_G} {cA : Nat → ClassId} {r : Nat → Nat} {G : gG} {xr : Int32} {v' : gV} (X : XM l D cA r RX6 cX6_when 7 (some .int) rmX6_when (some (.int xr)) v' G) : ∀ (n : Nat) (v : gV) (x1 : Int32) (x2 : Int32) (x3 : Int32) (x4 : Int32) (x5 : Int32), fX6_when_28 n v x1 x2 x3 x4 x5 = some (xr, v') → G v [(0, .ref (r 0)), (1, .int x1), (2, .int x2), (3, .int x3), (4, .int x4), (5, .int x5)] 28 [] := by
  intro n
  induction n with
  | zero => intro v x1 x2 x3 x4 x5 h; rw [fX6_when_28] at h; cases h
  | succ n ih =>
    intro v x1 x2 x3 x4 x5 h
    rw [fX6_when_28] at h
    refine g_iload X dX6_when_28 5 rfl ?_
    refine g_bipush X 13 dX6_when_30 (by decide) ?_
    refine g_icmp_gt X 94 dX6_when_32 (by decide) (fun c => ?_) (fun c => ?_)
    · replace h := gTr c h
      refine g_aload_n X dX6_when_94 rfl 0 rfl ?_
      refine g_get X fl6_7 hNM_0 (shM_0 _) rfl dX6_when_95 ?_
      refine g_bipush X 6 dX6_when_98 (by decide) ?_
      refine g_iload_n X dX6_when_100 rfl 2 rfl ?_
      refine g_iastK X 6 hNM_1 (shM_1) rfl vin_6_7 dX6_when_101 ?_
      refine g_iload_n X dX6_when_102 rfl 1 rfl ?_
      refine g_if_ne X 110 dX6_when_103 (by decide) (fun c => ?_) (fun c => ?_)
      · replace h := gF c h
        refine g_iload X dX6_when_110 4 rfl ?_
        exact g_iretR X h dX6_when_112
      · replace h := gTr c h
        refine g_iload_n X dX6_when_106 rfl 3 rfl ?_
        refine g_goto X 112 dX6_when_107 (by decide) ?_
        exact g_iretR X h dX6_when_112
    · replace h := gF c h
      refine g_aload_n X dX6_when_35 rfl 0 rfl ?_
      refine g_get X fl6_7 hNM_0 (shM_0 _) rfl dX6_when_36 ?_
      refine g_bipush X 6 dX6_when_39 (by decide) ?_
      refine g_iload_n X dX6_when_41 rfl 2 rfl ?_
      refine g_iload X dX6_when_42 5 rfl ?_
      refine g_iadd X dX6_when_44 ?_
      refine g_iastK X 6 hNM_1 (shM_1) rfl vin_6_7 dX6_when_45 ?_
      refine g_aload_n X dX6_when_46 rfl 0 rfl ?_
      refine g_aload_n X dX6_when_47 rfl 0 rfl ?_
      refine g_get X fl6_7 hNM_0 (shM_0 _) rfl dX6_when_48 ?_
      refine g_iconst X 0 dX6_when_51 (by decide) ?_
      refine g_ialdK X 0 hNM_1 (shM_1 _) rfl vin_0_7 dX6_when_52 ?_
      obtain ⟨y4, v5, hc6, h⟩ := gB_inv h
      refine g_callV X (st := []) (st' := [.int y4]) kcX6_drunkWith kvX6_drunkWith kl6_224 (⟨rfl, rfl, by decide, by decide⟩) (mX6_drunkWith hc6) hNM_0 (shM_0 _) rfl rfl rfl (Nat.le_of_ble_eq_true rfl) rfl dX6_when_53 ?_
      refine g_istore X (ls' := [(6, .int y4), (0, .ref (r 0)), (1, .int x1), (2, .int x2), (3, .int x3), (4, .int x4), (5, .int x5)]) dX6_when_56 (by decide) rfl ?_
      refine g_iload X dX6_when_58 0 rfl ?_
      refine g_iload X dX6_when_60 5 rfl ?_
      refine g_icmp_le X 70 dX6_when_62 (by decide) (fun c => ?_) (fun c => ?_)
      · replace h := gTr c h
        refine g_iload_n X dX6_when_70 rfl 4 rfl ?_
        refine g_sub X [1, 2, 3, 5, 6, 0] (ls' := [(0, .ref (r 0)), (1, .int x1), (2, .int x2), (4, .int x4), (5, .int x5), (6, .int y4)]) rfl ?_
        exact bX6_when_71 X ih _ _ _ _ _ _ _  h
      · replace h := gF c h
        refine g_iload X dX6_when_65 6 rfl ?_
        refine g_goto X 71 dX6_when_67 (by decide) ?_
        refine g_sub X [1, 2, 3, 5, 6, 0] (ls' := [(0, .ref (r 0)), (1, .int x1), (2, .int x2), (4, .int x4), (5, .int x5), (6, .int y4)]) rfl ?_
        exact bX6_when_71 X ih _ _ _ _ _ _ _  h

set_option maxHeartbeats 4000000 in
set_option maxRecDepth 100000 in
theorem bX6_when_0 {l : Launch} {D : va_G} {cA : Nat → ClassId} {r : Nat → Nat} {G : gG} {xr : Int32} {v' : gV} (X : XM l D cA r RX6 cX6_when 7 (some .int) rmX6_when (some (.int xr)) v' G) (v : gV) (x1 : Int32) (h : fX6_when v x1 = some (xr, v')) : G v [(0, .ref (r 0)), (1, .int x1)] 0 [] := by
  unfold fX6_when at h
  refine g_iload_n X dX6_when_0 rfl 1 rfl ?_
  refine g_iconst X 0 dX6_when_1 (by decide) ?_
  refine g_iconst X 1 dX6_when_2 (by decide) ?_
  obtain ⟨y1, v2, hc3, h⟩ := gB_inv h
  refine g_callS X (st := []) (st' := [.int y1]) kcX6_in ktX6_in kl6_78 (⟨rfl, rfl, by decide, by decide⟩) (mX6_in hc3) rfl rfl (Nat.le_of_ble_eq_true rfl) rfl dX6_when_3 ?_
  refine g_if_ne X 12 dX6_when_6 (by decide) (fun c => ?_) (fun c => ?_)
  · replace h := gF c h
    refine g_aload_n X dX6_when_12 rfl 0 rfl ?_
    refine g_get X fl6_7 hNM_0 (shM_0 _) rfl dX6_when_13 ?_
    refine g_bipush X 6 dX6_when_16 (by decide) ?_
    refine g_ialdK X 6 hNM_1 (shM_1 _) rfl vin_6_7 dX6_when_18 ?_
    refine g_istore_n X (ls' := [(2, .int (v2 1 6)), (0, .ref (r 0)), (1, .int x1)]) dX6_when_19 rfl (by decide) rfl ?_
    refine g_iconst X 0 dX6_when_20 (by decide) ?_
    refine g_istore_n X (ls' := [(3, .int 0), (2, .int (v2 1 6)), (0, .ref (r 0)), (1, .int x1)]) dX6_when_21 rfl (by decide) rfl ?_
    refine g_iconst X (-1) dX6_when_22 (by decide) ?_
    refine g_istore X (ls' := [(4, .int (-1)), (3, .int 0), (2, .int (v2 1 6)), (0, .ref (r 0)), (1, .int x1)]) dX6_when_23 (by decide) rfl ?_
    refine g_iconst X 0 dX6_when_25 (by decide) ?_
    refine g_istore X (ls' := [(5, .int 0), (4, .int (-1)), (3, .int 0), (2, .int (v2 1 6)), (0, .ref (r 0)), (1, .int x1)]) dX6_when_26 (by decide) rfl ?_
    refine g_sub X [4, 5, 3, 2, 1, 0] (ls' := [(0, .ref (r 0)), (1, .int x1), (2, .int (v2 1 6)), (3, .int 0), (4, .int (-1)), (5, .int 0)]) rfl ?_
    exact bX6_when_28 X  _ _ _ _ _ _ _  h
  · replace h := gTr c h
    refine g_bipush X (-2) dX6_when_9 (by decide) ?_
    exact g_iretR X h dX6_when_11

theorem mX6_when {l : Launch} {D : va_G} {cA : Nat → ClassId} {r : Nat → Nat} {v : gV} {x1 : Int32} {xr : Int32} {v' : gV} (h : fX6_when v x1 = some (xr, v')) : Ct l D (tysM cA) (shM cA r) 19 r (ZM r) yX6_when cX6_when 7 (some .int) rmX6_when [.ref (r 0), .int x1] v (some (.int xr)) v' := ct_of plX6 ZM_ok (Nat.le_of_ble_eq_true rfl) rfl (fun _ X => bX6_when_0 X v x1 h)

def rmX6_sheetWrong : Room := { frames := 1, cells := 0, slots := 0, locals := 22 }

set_option maxHeartbeats 4000000 in
set_option maxRecDepth 100000 in
theorem bX6_sheetWrong_0 {l : Launch} {D : va_G} {cA : Nat → ClassId} {r : Nat → Nat} {G : gG} {xr : Int32} {v' : gV} (X : XM l D cA r RX6 cX6_sheetWrong 2 (some .int) rmX6_sheetWrong (some (.int xr)) v' G) (v : gV) (x1 : Int32) (h : fX6_sheetWrong v x1 = some (xr, v')) : G v [(0, .ref (r 0)), (1, .int x1)] 0 [] := by
  unfold fX6_sheetWrong at h
  refine g_iload_n X dX6_sheetWrong_0 rfl 1 rfl ?_
  refine g_iconst X 0 dX6_sheetWrong_1 (by decide) ?_
  refine g_iconst X 3 dX6_sheetWrong_2 (by decide) ?_
  obtain ⟨y1, v2, hc3, h⟩ := gB_inv h
  refine g_callS X (st := []) (st' := [.int y1]) kcX6_in ktX6_in kl6_78 (⟨rfl, rfl, by decide, by decide⟩) (mX6_in hc3) rfl rfl (Nat.le_of_ble_eq_true rfl) rfl dX6_sheetWrong_3 ?_
  refine g_if_ne X 14 dX6_sheetWrong_6 (by decide) (fun c => ?_) (fun c => ?_)
  · replace h := gF c h
    refine g_aload_n X dX6_sheetWrong_14 rfl 0 rfl ?_
    refine g_get X fl6_41 hNM_0 (shM_0 _) rfl dX6_sheetWrong_15 ?_
    refine g_iload_n X dX6_sheetWrong_18 rfl 1 rfl ?_
    obtain ⟨c, h⟩ := gGd h
    refine g_iald X hNM_10 (shM_10 _) rfl (gin_in c) dX6_sheetWrong_19 ?_
    refine g_iconst X (-1) dX6_sheetWrong_20 (by decide) ?_
    refine g_icmp_ne X 29 dX6_sheetWrong_21 (by decide) (fun c => ?_) (fun c => ?_)
    · replace h := gF c h
      refine g_iconst X 0 dX6_sheetWrong_29 (by decide) ?_
      exact g_iretR X h dX6_sheetWrong_30
    · replace h := gTr c h
      refine g_bipush X (-11) dX6_sheetWrong_24 (by decide) ?_
      refine g_goto X 30 dX6_sheetWrong_26 (by decide) ?_
      exact g_iretR X h dX6_sheetWrong_30
  · replace h := gTr c h
    refine g_bipush X (-2) dX6_sheetWrong_9 (by decide) ?_
    refine g_goto X 30 dX6_sheetWrong_11 (by decide) ?_
    exact g_iretR X h dX6_sheetWrong_30

theorem mX6_sheetWrong {l : Launch} {D : va_G} {cA : Nat → ClassId} {r : Nat → Nat} {v : gV} {x1 : Int32} {xr : Int32} {v' : gV} (h : fX6_sheetWrong v x1 = some (xr, v')) : Ct l D (tysM cA) (shM cA r) 19 r (ZM r) yX6_sheetWrong cX6_sheetWrong 2 (some .int) rmX6_sheetWrong [.ref (r 0), .int x1] v (some (.int xr)) v' := ct_of plX6 ZM_ok (Nat.le_of_ble_eq_true rfl) rfl (fun _ X => bX6_sheetWrong_0 X v x1 h)

def rmX6_goesBy : Room := { frames := 5, cells := 0, slots := 0, locals := 112 }

set_option maxHeartbeats 4000000 in
set_option maxRecDepth 100000 in
theorem bX6_goesBy_2 {l : Launch} {D : va_G} {cA : Nat → ClassId} {r : Nat → Nat} {G : gG} {xr : Int32} {v' : gV} (X : XM l D cA r RX6 cX6_goesBy 4 (some .int) rmX6_goesBy (some (.int xr)) v' G) : ∀ (n : Nat) (v : gV) (x1 : Int32) (x2 : Int32), fX6_goesBy_2 n v x1 x2 = some (xr, v') → G v [(0, .ref (r 0)), (1, .int x1), (2, .int x2)] 2 [] := by
  intro n
  induction n with
  | zero => intro v x1 x2 h; rw [fX6_goesBy_2] at h; cases h
  | succ n ih =>
    intro v x1 x2 h
    rw [fX6_goesBy_2] at h
    refine g_iload_n X dX6_goesBy_2 rfl 2 rfl ?_
    refine g_aload_n X dX6_goesBy_3 rfl 0 rfl ?_
    refine g_get X fl6_44 hNM_0 (shM_0 _) rfl dX6_goesBy_4 ?_
    refine g_iload_n X dX6_goesBy_7 rfl 1 rfl ?_
    obtain ⟨c, h⟩ := gGd h
    refine g_iald X hNM_11 (shM_11 _) rfl (gin_in c) dX6_goesBy_8 ?_
    refine g_icmp_ge X 53 dX6_goesBy_9 (by decide) (fun c => ?_) (fun c => ?_)
    · replace h := gTr c h
      refine g_iconst X (-1) dX6_goesBy_53 (by decide) ?_
      exact g_iretR X h dX6_goesBy_54
    · replace h := gF c h
      refine g_aload_n X dX6_goesBy_12 rfl 0 rfl ?_
      refine g_get X fl6_47 hNM_0 (shM_0 _) rfl dX6_goesBy_13 ?_
      refine g_bipush X 40 dX6_goesBy_16 (by decide) ?_
      refine g_iload_n X dX6_goesBy_18 rfl 1 rfl ?_
      refine g_imul X dX6_goesBy_19 ?_
      refine g_iload_n X dX6_goesBy_20 rfl 2 rfl ?_
      refine g_iadd X dX6_goesBy_21 ?_
      obtain ⟨c, h⟩ := gGd h
      refine g_iald X hNM_12 (shM_12 _) rfl (gin_in c) dX6_goesBy_22 ?_
      refine g_istore_n X (ls' := [(3, .int (v 12 ((40 * x1) + x2).toNatClampNeg)), (0, .ref (r 0)), (1, .int x1), (2, .int x2)]) dX6_goesBy_23 rfl (by decide) rfl ?_
      refine g_aload_n X dX6_goesBy_24 rfl 1 rfl ?_
      refine g_iload_n X dX6_goesBy_25 rfl 0 rfl ?_
      obtain ⟨y1, v2, hc3, h⟩ := gB_inv h
      refine g_callV X (st := []) (st' := [.int y1]) kcX6_isMove kvX6_isMove kl6_186 (⟨rfl, rfl, by decide, by decide⟩) (mX6_isMove hc3) hNM_0 (shM_0 _) rfl rfl rfl (Nat.le_of_ble_eq_true rfl) rfl dX6_goesBy_26 ?_
      refine g_if_eq X 40 dX6_goesBy_29 (by decide) (fun c => ?_) (fun c => ?_)
      · replace h := gTr c h
        refine g_iload_n X dX6_goesBy_40 rfl 3 rfl ?_
        exact g_iretR X h dX6_goesBy_41
      · replace h := gF c h
        refine g_aload_n X dX6_goesBy_32 rfl 1 rfl ?_
        refine g_iload_n X dX6_goesBy_33 rfl 0 rfl ?_
        obtain ⟨y4, v5, hc6, h⟩ := gB_inv h
        refine g_callV X (st := []) (st' := [.int y4]) kcX6_canMove kvX6_canMove kl6_189 (⟨rfl, rfl, by decide, by decide⟩) (mX6_canMove hc6) hNM_0 (shM_0 _) rfl rfl rfl (Nat.le_of_ble_eq_true rfl) rfl dX6_goesBy_34 ?_
        refine g_if_ne X 42 dX6_goesBy_37 (by decide) (fun c => ?_) (fun c => ?_)
        · replace h := gF c h
          refine g_aload_n X dX6_goesBy_42 rfl 1 rfl ?_
          refine g_iload_n X dX6_goesBy_43 rfl 0 rfl ?_
          obtain ⟨y7, v8, hc9, h⟩ := gB_inv h
          refine g_callV X (st := []) (st' := []) kcX6_goes kvX6_goes kl6_192 (⟨rfl, rfl, by decide, by decide⟩) (mX6_goes hc9) hNM_0 (shM_0 _) rfl rfl rfl (Nat.le_of_ble_eq_true rfl) rfl dX6_goesBy_44 ?_
          refine g_iinc X (x2 + 1) [(2, .int (x2 + 1)), (3, .int (v 12 ((40 * x1) + x2).toNatClampNeg)), (0, .ref (r 0)), (1, .int x1)] dX6_goesBy_47 3 rfl rfl (by decide) rfl ?_
          refine g_goto X 2 dX6_goesBy_50 (by decide) ?_
          refine g_sub X [2, 3, 0] (ls' := [(0, .ref (r 0)), (1, .int x1), (2, .int (x2 + 1))]) rfl ?_
          exact ih _ _ _  h
        · replace h := gTr c h
          refine g_iload_n X dX6_goesBy_40 rfl 3 rfl ?_
          exact g_iretR X h dX6_goesBy_41

set_option maxHeartbeats 4000000 in
set_option maxRecDepth 100000 in
theorem bX6_goesBy_0 {l : Launch} {D : va_G} {cA : Nat → ClassId} {r : Nat → Nat} {G : gG} {xr : Int32} {v' : gV} (X : XM l D cA r RX6 cX6_goesBy 4 (some .int) rmX6_goesBy (some (.int xr)) v' G) (v : gV) (x1 : Int32) (h : fX6_goesBy v x1 = some (xr, v')) : G v [(0, .ref (r 0)), (1, .int x1)] 0 [] := by
  unfold fX6_goesBy at h
  refine g_iconst X 0 dX6_goesBy_0 (by decide) ?_
  refine g_istore_n X (ls' := [(2, .int 0), (0, .ref (r 0)), (1, .int x1)]) dX6_goesBy_1 rfl (by decide) rfl ?_
  refine g_sub X [1, 2, 0] (ls' := [(0, .ref (r 0)), (1, .int x1), (2, .int 0)]) rfl ?_
  exact bX6_goesBy_2 X  _ _ _ _  h

theorem mX6_goesBy {l : Launch} {D : va_G} {cA : Nat → ClassId} {r : Nat → Nat} {v : gV} {x1 : Int32} {xr : Int32} {v' : gV} (h : fX6_goesBy v x1 = some (xr, v')) : Ct l D (tysM cA) (shM cA r) 19 r (ZM r) yX6_goesBy cX6_goesBy 4 (some .int) rmX6_goesBy [.ref (r 0), .int x1] v (some (.int xr)) v' := ct_of plX6 ZM_ok (Nat.le_of_ble_eq_true rfl) rfl (fun _ X => bX6_goesBy_0 X v x1 h)

def rmX6_judge : Room := { frames := 6, cells := 0, slots := 0, locals := 135 }

set_option maxHeartbeats 4000000 in
set_option maxRecDepth 100000 in
theorem bX6_judge_0 {l : Launch} {D : va_G} {cA : Nat → ClassId} {r : Nat → Nat} {G : gG} {xr : Int32} {v' : gV} (X : XM l D cA r RX6 cX6_judge 4 (some .int) rmX6_judge (some (.int xr)) v' G) (v : gV) (x1 : Int32) (h : fX6_judge v x1 = some (xr, v')) : G v [(0, .ref (r 0)), (1, .int x1)] 0 [] := by
  unfold fX6_judge at h
  refine g_aload_n X dX6_judge_0 rfl 0 rfl ?_
  refine g_iload_n X dX6_judge_1 rfl 1 rfl ?_
  obtain ⟨y1, v2, hc3, h⟩ := gB_inv h
  refine g_callV X (st := []) (st' := [.int y1]) kcX6_sheetWrong kvX6_sheetWrong kl6_236 (⟨rfl, rfl, by decide, by decide⟩) (mX6_sheetWrong hc3) hNM_0 (shM_0 _) rfl rfl rfl (Nat.le_of_ble_eq_true rfl) rfl dX6_judge_2 ?_
  refine g_istore_n X (ls' := [(2, .int y1), (0, .ref (r 0)), (1, .int x1)]) dX6_judge_5 rfl (by decide) rfl ?_
  refine g_iload_n X dX6_judge_6 rfl 0 rfl ?_
  refine g_if_eq X 12 dX6_judge_7 (by decide) (fun c => ?_) (fun c => ?_)
  · replace h := gTr c h
    refine g_aload_n X dX6_judge_12 rfl 1 rfl ?_
    refine g_iconst X 0 dX6_judge_13 (by decide) ?_
    obtain ⟨y4, v5, hc6, h⟩ := gB_inv h
    refine g_callV X (st := []) (st' := []) kcX6_keeps kvX6_keeps kl6_198 (⟨rfl, rfl, by decide, by decide⟩) (mX6_keeps hc6) hNM_0 (shM_0 _) rfl rfl rfl (Nat.le_of_ble_eq_true rfl) rfl dX6_judge_14 ?_
    refine g_aload_n X dX6_judge_17 rfl 1 rfl ?_
    refine g_iload_n X dX6_judge_18 rfl 2 rfl ?_
    obtain ⟨y7, v8, hc9, h⟩ := gB_inv h
    refine g_callV X (st := []) (st' := [.int y7]) kcX6_goesBy kvX6_goesBy kl6_239 (⟨rfl, rfl, by decide, by decide⟩) (mX6_goesBy hc9) hNM_0 (shM_0 _) rfl rfl rfl (Nat.le_of_ble_eq_true rfl) rfl dX6_judge_19 ?_
    refine g_istore_n X (ls' := [(3, .int y7), (2, .int y1), (0, .ref (r 0)), (1, .int x1)]) dX6_judge_22 rfl (by decide) rfl ?_
    refine g_aload_n X dX6_judge_23 rfl 2 rfl ?_
    refine g_iconst X 0 dX6_judge_24 (by decide) ?_
    obtain ⟨y10, v11, hc12, h⟩ := gB_inv h
    refine g_callV X (st := []) (st' := []) kcX6_laysBack kvX6_laysBack kl6_204 (⟨rfl, rfl, by decide, by decide⟩) (mX6_laysBack hc12) hNM_0 (shM_0 _) rfl rfl rfl (Nat.le_of_ble_eq_true rfl) rfl dX6_judge_25 ?_
    refine g_iload_n X dX6_judge_28 rfl 0 rfl ?_
    exact g_iretR X h dX6_judge_29
  · replace h := gF c h
    refine g_iload_n X dX6_judge_10 rfl 0 rfl ?_
    exact g_iretR X h dX6_judge_11

theorem mX6_judge {l : Launch} {D : va_G} {cA : Nat → ClassId} {r : Nat → Nat} {v : gV} {x1 : Int32} {xr : Int32} {v' : gV} (h : fX6_judge v x1 = some (xr, v')) : Ct l D (tysM cA) (shM cA r) 19 r (ZM r) yX6_judge cX6_judge 4 (some .int) rmX6_judge [.ref (r 0), .int x1] v (some (.int xr)) v' := ct_of plX6 ZM_ok (Nat.le_of_ble_eq_true rfl) rfl (fun _ X => bX6_judge_0 X v x1 h)

def rmX6_behind : Room := { frames := 6, cells := 0, slots := 0, locals := 135 }

set_option maxHeartbeats 4000000 in
set_option maxRecDepth 100000 in
theorem bX6_behind_50 {l : Launch} {D : va_G} {cA : Nat → ClassId} {r : Nat → Nat} {G : gG} {xr : Int32} {v' : gV} (X : XM l D cA r RX6 cX6_behind 5 (some .int) rmX6_behind (some (.int xr)) v' G) (v : gV) (s0 : Int32) (h : fX6_behind_50 v s0 = some (xr, v')) : G v [(0, .ref (r 0))] 50 [.int s0] := by
  unfold fX6_behind_50 at h
  refine g_istore X (ls' := [(4, .int s0), (0, .ref (r 0))]) dX6_behind_50 (by decide) rfl ?_
  refine g_aload_n X dX6_behind_52 rfl 1 rfl ?_
  refine g_iconst X 0 dX6_behind_53 (by decide) ?_
  obtain ⟨y13, v14, hc15, h⟩ := gB_inv h
  refine g_callV X (st := []) (st' := []) kcX6_laysBack kvX6_laysBack kl6_204 (⟨rfl, rfl, by decide, by decide⟩) (mX6_laysBack hc15) hNM_0 (shM_0 _) rfl rfl rfl (Nat.le_of_ble_eq_true rfl) rfl dX6_behind_54 ?_
  refine g_iload X dX6_behind_57 0 rfl ?_
  exact g_iretR X h dX6_behind_59

set_option maxHeartbeats 4000000 in
set_option maxRecDepth 100000 in
theorem bX6_behind_0 {l : Launch} {D : va_G} {cA : Nat → ClassId} {r : Nat → Nat} {G : gG} {xr : Int32} {v' : gV} (X : XM l D cA r RX6 cX6_behind 5 (some .int) rmX6_behind (some (.int xr)) v' G) (v : gV) (x1 : Int32) (x2 : Int32) (h : fX6_behind v x1 x2 = some (xr, v')) : G v [(0, .ref (r 0)), (1, .int x1), (2, .int x2)] 0 [] := by
  unfold fX6_behind at h
  refine g_aload_n X dX6_behind_0 rfl 0 rfl ?_
  refine g_iload_n X dX6_behind_1 rfl 1 rfl ?_
  obtain ⟨y1, v2, hc3, h⟩ := gB_inv h
  refine g_callV X (st := []) (st' := [.int y1]) kcX6_sheetWrong kvX6_sheetWrong kl6_236 (⟨rfl, rfl, by decide, by decide⟩) (mX6_sheetWrong hc3) hNM_0 (shM_0 _) rfl rfl rfl (Nat.le_of_ble_eq_true rfl) rfl dX6_behind_2 ?_
  refine g_istore_n X (ls' := [(3, .int y1), (0, .ref (r 0)), (1, .int x1), (2, .int x2)]) dX6_behind_5 rfl (by decide) rfl ?_
  refine g_iload_n X dX6_behind_6 rfl 0 rfl ?_
  refine g_if_eq X 12 dX6_behind_7 (by decide) (fun c => ?_) (fun c => ?_)
  · replace h := gTr c h
    refine g_iload_n X dX6_behind_12 rfl 3 rfl ?_
    refine g_iconst X 0 dX6_behind_13 (by decide) ?_
    refine g_bipush X 6 dX6_behind_14 (by decide) ?_
    obtain ⟨y4, v5, hc6, h⟩ := gB_inv h
    refine g_callS X (st := []) (st' := [.int y4]) kcX6_in ktX6_in kl6_78 (⟨rfl, rfl, by decide, by decide⟩) (mX6_in hc6) rfl rfl (Nat.le_of_ble_eq_true rfl) rfl dX6_behind_16 ?_
    refine g_if_ne X 25 dX6_behind_19 (by decide) (fun c => ?_) (fun c => ?_)
    · replace h := gF c h
      refine g_aload_n X dX6_behind_25 rfl 1 rfl ?_
      refine g_iconst X 0 dX6_behind_26 (by decide) ?_
      obtain ⟨y7, v8, hc9, h⟩ := gB_inv h
      refine g_callV X (st := []) (st' := []) kcX6_keeps kvX6_keeps kl6_198 (⟨rfl, rfl, by decide, by decide⟩) (mX6_keeps hc9) hNM_0 (shM_0 _) rfl rfl rfl (Nat.le_of_ble_eq_true rfl) rfl dX6_behind_27 ?_
      refine g_aload_n X dX6_behind_30 rfl 1 rfl ?_
      refine g_iload_n X dX6_behind_31 rfl 2 rfl ?_
      obtain ⟨y10, v11, hc12, h⟩ := gB_inv h
      refine g_callV X (st := []) (st' := [.int y10]) kcX6_goesBy kvX6_goesBy kl6_239 (⟨rfl, rfl, by decide, by decide⟩) (mX6_goesBy hc12) hNM_0 (shM_0 _) rfl rfl rfl (Nat.le_of_ble_eq_true rfl) rfl dX6_behind_32 ?_
      refine g_iconst X (-1) dX6_behind_35 (by decide) ?_
      refine g_icmp_ne X 48 dX6_behind_36 (by decide) (fun c => ?_) (fun c => ?_)
      · replace h := gF c h
        refine g_bipush X (-9) dX6_behind_48 (by decide) ?_
        refine g_sub X [1] (ls' := [(0, .ref (r 0))]) rfl ?_
        exact bX6_behind_50 X  _ _  h
      · replace h := gTr c h
        refine g_aload_n X dX6_behind_39 rfl 1 rfl ?_
        refine g_get X fl6_7 hNM_0 (shM_0 _) rfl dX6_behind_40 ?_
        refine g_iload_n X dX6_behind_43 rfl 3 rfl ?_
        obtain ⟨c, h⟩ := gGd h
        refine g_iald X hNM_1 (shM_1 _) rfl (gin_in c) dX6_behind_44 ?_
        refine g_goto X 50 dX6_behind_45 (by decide) ?_
        refine g_sub X [1] (ls' := [(0, .ref (r 0))]) rfl ?_
        exact bX6_behind_50 X  _ _  h
    · replace h := gTr c h
      refine g_bipush X (-7) dX6_behind_22 (by decide) ?_
      exact g_iretR X h dX6_behind_24
  · replace h := gF c h
    refine g_iload_n X dX6_behind_10 rfl 0 rfl ?_
    exact g_iretR X h dX6_behind_11

theorem mX6_behind {l : Launch} {D : va_G} {cA : Nat → ClassId} {r : Nat → Nat} {v : gV} {x1 : Int32} {x2 : Int32} {xr : Int32} {v' : gV} (h : fX6_behind v x1 x2 = some (xr, v')) : Ct l D (tysM cA) (shM cA r) 19 r (ZM r) yX6_behind cX6_behind 5 (some .int) rmX6_behind [.ref (r 0), .int x1, .int x2] v (some (.int xr)) v' := ct_of plX6 ZM_ok (Nat.le_of_ble_eq_true rfl) rfl (fun _ X => bX6_behind_0 X v x1 x2 h)

def rmX6_film : Room := { frames := 6, cells := 0, slots := 0, locals := 132 }

set_option maxHeartbeats 4000000 in
set_option maxRecDepth 100000 in
theorem bX6_film_113 {l : Launch} {D : va_G} {cA : Nat → ClassId} {r : Nat → Nat} {G : gG} {xr : Int32} {v' : gV} {k72 : gV → Int32 → Int32 → Int32 → Int32 → Option (Int32 × gV)} (X : XM l D cA r RX6 cX6_film 5 (some .int) rmX6_film (some (.int xr)) v' G) (K72 : ∀ (v : gV) (x1 : Int32) (x2 : Int32) (x3 : Int32) (x4 : Int32), k72 v x1 x2 x3 x4 = some (xr, v') → G v [(0, .ref (r 0)), (1, .int x1), (2, .int x2), (3, .int x3), (4, .int x4)] 72 []) (v : gV) (x1 : Int32) (x2 : Int32) (x3 : Int32) (s0 : Int32) (h : fX6_film_113 k72 v x1 x2 x3 s0 = some (xr, v')) : G v [(0, .ref (r 0)), (1, .int x1), (2, .int x2), (3, .int x3)] 113 [.int s0] := by
  unfold fX6_film_113 at h
  refine g_istore X (ls' := [(4, .int s0), (0, .ref (r 0)), (1, .int x1), (2, .int x2), (3, .int x3)]) dX6_film_113 (by decide) rfl ?_
  refine g_goto X 72 dX6_film_115 (by decide) ?_
  refine g_sub X [1, 2, 3, 4, 0] (ls' := [(0, .ref (r 0)), (1, .int x1), (2, .int x2), (3, .int x3), (4, .int s0)]) rfl ?_
  exact K72 _ _ _ _ _  h

set_option maxHeartbeats 4000000 in
set_option maxRecDepth 100000 in
theorem bX6_film_72 {l : Launch} {D : va_G} {cA : Nat → ClassId} {r : Nat → Nat} {G : gG} {xr : Int32} {v' : gV} (X : XM l D cA r RX6 cX6_film 5 (some .int) rmX6_film (some (.int xr)) v' G) : ∀ (n : Nat) (v : gV) (x1 : Int32) (x2 : Int32) (x3 : Int32) (x4 : Int32), fX6_film_72 n v x1 x2 x3 x4 = some (xr, v') → G v [(0, .ref (r 0)), (1, .int x1), (2, .int x2), (3, .int x3), (4, .int x4)] 72 [] := by
  intro n
  induction n with
  | zero => intro v x1 x2 x3 x4 h; rw [fX6_film_72] at h; cases h
  | succ n ih =>
    intro v x1 x2 x3 x4 h
    rw [fX6_film_72] at h
    refine g_iload X dX6_film_72 4 rfl ?_
    refine g_iconst X (-1) dX6_film_74 (by decide) ?_
    refine g_icmp_eq X 118 dX6_film_75 (by decide) (fun c => ?_) (fun c => ?_)
    · replace h := gTr c h
      refine g_aload_n X dX6_film_118 rfl 0 rfl ?_
      refine g_iconst X 0 dX6_film_119 (by decide) ?_
      obtain ⟨y13, v14, hc15, h⟩ := gB_inv h
      refine g_callV X (st := []) (st' := []) kcX6_laysBack kvX6_laysBack kl6_204 (⟨rfl, rfl, by decide, by decide⟩) (mX6_laysBack hc15) hNM_0 (shM_0 _) rfl rfl rfl (Nat.le_of_ble_eq_true rfl) rfl dX6_film_120 ?_
      refine g_aload_n X dX6_film_123 rfl 0 rfl ?_
      refine g_get X fl6_41 hNM_0 (shM_0 _) rfl dX6_film_124 ?_
      refine g_iload_n X dX6_film_127 rfl 1 rfl ?_
      refine g_iconst X 2 dX6_film_128 (by decide) ?_
      obtain ⟨c, h⟩ := gGd h
      refine g_iast X hNM_10 (shM_10) rfl (gin_in c) dX6_film_129 ?_
      refine g_aload_n X dX6_film_130 rfl 0 rfl ?_
      refine g_get X fl6_44 hNM_0 (shM_0 _) rfl dX6_film_131 ?_
      refine g_iload_n X dX6_film_134 rfl 1 rfl ?_
      refine g_iload_n X dX6_film_135 rfl 3 rfl ?_
      obtain ⟨c, h⟩ := gGd h
      refine g_iast X hNM_11 (shM_11) rfl (gin_in c) dX6_film_136 ?_
      refine g_iload_n X dX6_film_137 rfl 3 rfl ?_
      exact g_iretR X h dX6_film_138
    · replace h := gF c h
      refine g_aload_n X dX6_film_78 rfl 0 rfl ?_
      refine g_get X fl6_47 hNM_0 (shM_0 _) rfl dX6_film_79 ?_
      refine g_bipush X 40 dX6_film_82 (by decide) ?_
      refine g_iload_n X dX6_film_84 rfl 1 rfl ?_
      refine g_imul X dX6_film_85 ?_
      refine g_iload_n X dX6_film_86 rfl 3 rfl ?_
      refine g_iadd X dX6_film_87 ?_
      refine g_iload X dX6_film_88 4 rfl ?_
      obtain ⟨c, h⟩ := gGd h
      refine g_iast X hNM_12 (shM_12) rfl (gin_in c) dX6_film_90 ?_
      refine g_aload_n X dX6_film_91 rfl 0 rfl ?_
      refine g_iload X dX6_film_92 4 rfl ?_
      obtain ⟨y16, v17, hc18, h⟩ := gB_inv h
      refine g_callV X (st := []) (st' := []) kcX6_goes kvX6_goes kl6_192 (⟨rfl, rfl, by decide, by decide⟩) (mX6_goes hc18) hNM_0 (shM_0 _) rfl rfl rfl (Nat.le_of_ble_eq_true rfl) rfl dX6_film_94 ?_
      refine g_iinc X (x3 + 1) [(3, .int (x3 + 1)), (0, .ref (r 0)), (1, .int x1), (2, .int x2), (4, .int x4)] dX6_film_97 3 rfl rfl (by decide) rfl ?_
      refine g_iload_n X dX6_film_100 rfl 0 rfl ?_
      refine g_iload_n X dX6_film_101 rfl 3 rfl ?_
      refine g_icmp_ge X 112 dX6_film_102 (by decide) (fun c => ?_) (fun c => ?_)
      · replace h := gTr c h
        refine g_iconst X (-1) dX6_film_112 (by decide) ?_
        refine g_sub X [1, 2, 3, 0] (ls' := [(0, .ref (r 0)), (1, .int x1), (2, .int x2), (3, .int (x3 + 1))]) rfl ?_
        exact bX6_film_113 X ih _ _ _ _ _  h
      · replace h := gF c h
        refine g_aload_n X dX6_film_105 rfl 1 rfl ?_
        obtain ⟨y19, v20, hc21, h⟩ := gB_inv h
        refine g_callV X (st := []) (st' := [.int y19]) kcX6_greedy kvX6_greedy kl6_195 (⟨rfl, rfl, by decide, by decide⟩) (mX6_greedy hc21) hNM_0 (shM_0 _) rfl rfl rfl (Nat.le_of_ble_eq_true rfl) rfl dX6_film_106 ?_
        refine g_goto X 113 dX6_film_109 (by decide) ?_
        refine g_sub X [1, 2, 3, 0] (ls' := [(0, .ref (r 0)), (1, .int x1), (2, .int x2), (3, .int (x3 + 1))]) rfl ?_
        exact bX6_film_113 X ih _ _ _ _ _  h

set_option maxHeartbeats 4000000 in
set_option maxRecDepth 100000 in
theorem bX6_film_70 {l : Launch} {D : va_G} {cA : Nat → ClassId} {r : Nat → Nat} {G : gG} {xr : Int32} {v' : gV} (X : XM l D cA r RX6 cX6_film 5 (some .int) rmX6_film (some (.int xr)) v' G) (v : gV) (x1 : Int32) (x2 : Int32) (x3 : Int32) (s0 : Int32) (h : fX6_film_70 v x1 x2 x3 s0 = some (xr, v')) : G v [(0, .ref (r 0)), (1, .int x1), (2, .int x2), (3, .int x3)] 70 [.int s0] := by
  unfold fX6_film_70 at h
  refine g_istore X (ls' := [(4, .int s0), (0, .ref (r 0)), (1, .int x1), (2, .int x2), (3, .int x3)]) dX6_film_70 (by decide) rfl ?_
  refine g_sub X [1, 2, 3, 4, 0] (ls' := [(0, .ref (r 0)), (1, .int x1), (2, .int x2), (3, .int x3), (4, .int s0)]) rfl ?_
  exact bX6_film_72 X  _ _ _ _ _ _  h

set_option maxHeartbeats 4000000 in
set_option maxRecDepth 100000 in
theorem bX6_film_27 {l : Launch} {D : va_G} {cA : Nat → ClassId} {r : Nat → Nat} {G : gG} {xr : Int32} {v' : gV} (X : XM l D cA r RX6 cX6_film 5 (some .int) rmX6_film (some (.int xr)) v' G) : ∀ (n : Nat) (v : gV) (x1 : Int32) (x2 : Int32) (x3 : Int32), fX6_film_27 n v x1 x2 x3 = some (xr, v') → G v [(0, .ref (r 0)), (1, .int x1), (2, .int x2), (3, .int x3)] 27 [] := by
  intro n
  induction n with
  | zero => intro v x1 x2 x3 h; rw [fX6_film_27] at h; cases h
  | succ n ih =>
    intro v x1 x2 x3 h
    rw [fX6_film_27] at h
    refine g_iload_n X dX6_film_27 rfl 3 rfl ?_
    refine g_bipush X 40 dX6_film_28 (by decide) ?_
    refine g_icmp_ge X 51 dX6_film_30 (by decide) (fun c => ?_) (fun c => ?_)
    · replace h := gTr c h
      refine g_aload_n X dX6_film_51 rfl 0 rfl ?_
      refine g_iconst X 0 dX6_film_52 (by decide) ?_
      obtain ⟨y7, v8, hc9, h⟩ := gB_inv h
      refine g_callV X (st := []) (st' := []) kcX6_keeps kvX6_keeps kl6_198 (⟨rfl, rfl, by decide, by decide⟩) (mX6_keeps hc9) hNM_0 (shM_0 _) rfl rfl rfl (Nat.le_of_ble_eq_true rfl) rfl dX6_film_53 ?_
      refine g_iconst X 0 dX6_film_56 (by decide) ?_
      refine g_istore_n X (ls' := [(3, .int 0), (0, .ref (r 0)), (1, .int x1), (2, .int x2)]) dX6_film_57 rfl (by decide) rfl ?_
      refine g_iload_n X dX6_film_58 rfl 3 rfl ?_
      refine g_if_le X 69 dX6_film_59 (by decide) (fun c => ?_) (fun c => ?_)
      · replace h := gTr c h
        refine g_iconst X (-1) dX6_film_69 (by decide) ?_
        refine g_sub X [1, 2, 3, 0] (ls' := [(0, .ref (r 0)), (1, .int x1), (2, .int x2), (3, .int 0)]) rfl ?_
        exact bX6_film_70 X  _ _ _ _ _  h
      · replace h := gF c h
        refine g_aload_n X dX6_film_62 rfl 1 rfl ?_
        obtain ⟨y10, v11, hc12, h⟩ := gB_inv h
        refine g_callV X (st := []) (st' := [.int y10]) kcX6_greedy kvX6_greedy kl6_195 (⟨rfl, rfl, by decide, by decide⟩) (mX6_greedy hc12) hNM_0 (shM_0 _) rfl rfl rfl (Nat.le_of_ble_eq_true rfl) rfl dX6_film_63 ?_
        refine g_goto X 70 dX6_film_66 (by decide) ?_
        refine g_sub X [1, 2, 3, 0] (ls' := [(0, .ref (r 0)), (1, .int x1), (2, .int x2), (3, .int 0)]) rfl ?_
        exact bX6_film_70 X  _ _ _ _ _  h
    · replace h := gF c h
      refine g_aload_n X dX6_film_33 rfl 0 rfl ?_
      refine g_get X fl6_47 hNM_0 (shM_0 _) rfl dX6_film_34 ?_
      refine g_bipush X 40 dX6_film_37 (by decide) ?_
      refine g_iload_n X dX6_film_39 rfl 1 rfl ?_
      refine g_imul X dX6_film_40 ?_
      refine g_iload_n X dX6_film_41 rfl 3 rfl ?_
      refine g_iadd X dX6_film_42 ?_
      refine g_iconst X 0 dX6_film_43 (by decide) ?_
      obtain ⟨c, h⟩ := gGd h
      refine g_iast X hNM_12 (shM_12) rfl (gin_in c) dX6_film_44 ?_
      refine g_iinc X (x3 + 1) [(3, .int (x3 + 1)), (0, .ref (r 0)), (1, .int x1), (2, .int x2)] dX6_film_45 3 rfl rfl (by decide) rfl ?_
      refine g_goto X 27 dX6_film_48 (by decide) ?_
      refine g_sub X [1, 2, 3, 0] (ls' := [(0, .ref (r 0)), (1, .int x1), (2, .int x2), (3, .int (x3 + 1))]) rfl ?_
      exact ih _ _ _ _  h

set_option maxHeartbeats 4000000 in
set_option maxRecDepth 100000 in
theorem bX6_film_0 {l : Launch} {D : va_G} {cA : Nat → ClassId} {r : Nat → Nat} {G : gG} {xr : Int32} {v' : gV} (X : XM l D cA r RX6 cX6_film 5 (some .int) rmX6_film (some (.int xr)) v' G) (v : gV) (x1 : Int32) (x2 : Int32) (h : fX6_film v x1 x2 = some (xr, v')) : G v [(0, .ref (r 0)), (1, .int x1), (2, .int x2)] 0 [] := by
  unfold fX6_film at h
  refine g_iload_n X dX6_film_0 rfl 1 rfl ?_
  refine g_iconst X 0 dX6_film_1 (by decide) ?_
  refine g_iconst X 3 dX6_film_2 (by decide) ?_
  obtain ⟨y1, v2, hc3, h⟩ := gB_inv h
  refine g_callS X (st := []) (st' := [.int y1]) kcX6_in ktX6_in kl6_78 (⟨rfl, rfl, by decide, by decide⟩) (mX6_in hc3) rfl rfl (Nat.le_of_ble_eq_true rfl) rfl dX6_film_3 ?_
  refine g_if_ne X 12 dX6_film_6 (by decide) (fun c => ?_) (fun c => ?_)
  · replace h := gF c h
    refine g_iload_n X dX6_film_12 rfl 2 rfl ?_
    refine g_iconst X 0 dX6_film_13 (by decide) ?_
    refine g_bipush X 40 dX6_film_14 (by decide) ?_
    obtain ⟨y4, v5, hc6, h⟩ := gB_inv h
    refine g_callS X (st := []) (st' := [.int y4]) kcX6_in ktX6_in kl6_78 (⟨rfl, rfl, by decide, by decide⟩) (mX6_in hc6) rfl rfl (Nat.le_of_ble_eq_true rfl) rfl dX6_film_16 ?_
    refine g_if_ne X 25 dX6_film_19 (by decide) (fun c => ?_) (fun c => ?_)
    · replace h := gF c h
      refine g_iconst X 0 dX6_film_25 (by decide) ?_
      refine g_istore_n X (ls' := [(3, .int 0), (0, .ref (r 0)), (1, .int x1), (2, .int x2)]) dX6_film_26 rfl (by decide) rfl ?_
      refine g_sub X [1, 2, 3, 0] (ls' := [(0, .ref (r 0)), (1, .int x1), (2, .int x2), (3, .int 0)]) rfl ?_
      exact bX6_film_27 X  _ _ _ _ _  h
    · replace h := gTr c h
      refine g_bipush X (-7) dX6_film_22 (by decide) ?_
      exact g_iretR X h dX6_film_24
  · replace h := gTr c h
    refine g_bipush X (-2) dX6_film_9 (by decide) ?_
    exact g_iretR X h dX6_film_11

theorem mX6_film {l : Launch} {D : va_G} {cA : Nat → ClassId} {r : Nat → Nat} {v : gV} {x1 : Int32} {x2 : Int32} {xr : Int32} {v' : gV} (h : fX6_film v x1 x2 = some (xr, v')) : Ct l D (tysM cA) (shM cA r) 19 r (ZM r) yX6_film cX6_film 5 (some .int) rmX6_film [.ref (r 0), .int x1, .int x2] v (some (.int xr)) v' := ct_of plX6 ZM_ok (Nat.le_of_ble_eq_true rfl) rfl (fun _ X => bX6_film_0 X v x1 x2 h)

def rmX6_laws : Room := { frames := 8, cells := 0, slots := 0, locals := 177 }

set_option maxHeartbeats 4000000 in
set_option maxRecDepth 100000 in
theorem bX6_laws_62 {l : Launch} {D : va_G} {cA : Nat → ClassId} {r : Nat → Nat} {G : gG} {xr : Int32} {v' : gV} {k24 : gV → Int32 → Int32 → Int32 → Int32 → Option (Int32 × gV)} (X : XM l D cA r RX6 cX6_laws 5 (some .int) rmX6_laws (some (.int xr)) v' G) (K24 : ∀ (v : gV) (x1 : Int32) (x2 : Int32) (x3 : Int32) (x4 : Int32), k24 v x1 x2 x3 x4 = some (xr, v') → G v [(0, .ref (r 0)), (1, .int x1), (2, .int x2), (3, .int x3), (4, .int x4)] 24 []) (v : gV) (x1 : Int32) (x2 : Int32) (x4 : Int32) (s0 : Int32) (s1 : Int32) (h : fX6_laws_62 k24 v x1 x2 x4 s0 s1 = some (xr, v')) : G v [(0, .ref (r 0)), (1, .int x1), (2, .int x2), (4, .int x4)] 62 [.int s1, .int s0] := by
  unfold fX6_laws_62 at h
  refine g_ior X dX6_laws_62 ?_
  refine g_istore_n X (ls' := [(3, .int (s0 ||| s1)), (0, .ref (r 0)), (1, .int x1), (2, .int x2), (4, .int x4)]) dX6_laws_63 rfl (by decide) rfl ?_
  refine g_iinc X (x4 + 1) [(4, .int (x4 + 1)), (3, .int (s0 ||| s1)), (0, .ref (r 0)), (1, .int x1), (2, .int x2)] dX6_laws_64 4 rfl rfl (by decide) rfl ?_
  refine g_goto X 24 dX6_laws_67 (by decide) ?_
  refine g_sub X [2, 3, 4, 1, 0] (ls' := [(0, .ref (r 0)), (1, .int x1), (2, .int x2), (3, .int (s0 ||| s1)), (4, .int (x4 + 1))]) rfl ?_
  exact K24 _ _ _ _ _  h

set_option maxHeartbeats 4000000 in
set_option maxRecDepth 100000 in
theorem bX6_laws_24 {l : Launch} {D : va_G} {cA : Nat → ClassId} {r : Nat → Nat} {G : gG} {xr : Int32} {v' : gV} (X : XM l D cA r RX6 cX6_laws 5 (some .int) rmX6_laws (some (.int xr)) v' G) : ∀ (n : Nat) (v : gV) (x1 : Int32) (x2 : Int32) (x3 : Int32) (x4 : Int32), fX6_laws_24 n v x1 x2 x3 x4 = some (xr, v') → G v [(0, .ref (r 0)), (1, .int x1), (2, .int x2), (3, .int x3), (4, .int x4)] 24 [] := by
  intro n
  induction n with
  | zero => intro v x1 x2 x3 x4 h; rw [fX6_laws_24] at h; cases h
  | succ n ih =>
    intro v x1 x2 x3 x4 h
    rw [fX6_laws_24] at h
    refine g_iload X dX6_laws_24 4 rfl ?_
    refine g_aload_n X dX6_laws_26 rfl 0 rfl ?_
    refine g_get X fl6_82 hNM_0 (shM_0 _) rfl dX6_laws_27 ?_
    refine g_icmp_ge X 70 dX6_laws_30 (by decide) (fun c => ?_) (fun c => ?_)
    · replace h := gTr c h
      refine g_aload_n X dX6_laws_70 rfl 0 rfl ?_
      refine g_iload_n X dX6_laws_71 rfl 2 rfl ?_
      refine g_put X (fsM6 r) fp6_85 hNM_0 (shM_0) (fun _ => rfl) (Nat.le_of_ble_eq_true rfl) dX6_laws_72 ?_
      refine g_iload_n X dX6_laws_75 rfl 3 rfl ?_
      exact g_iretR X h dX6_laws_76
    · replace h := gF c h
      refine g_aload_n X dX6_laws_33 rfl 0 rfl ?_
      refine g_iload X dX6_laws_34 4 rfl ?_
      refine g_put X (fsM6 r) fp6_85 hNM_0 (shM_0) (fun _ => rfl) (Nat.le_of_ble_eq_true rfl) dX6_laws_36 ?_
      refine g_iload_n X dX6_laws_39 rfl 3 rfl ?_
      refine g_aload_n X dX6_laws_40 rfl 0 rfl ?_
      refine g_aload_n X dX6_laws_41 rfl 0 rfl ?_
      refine g_get X fl6_7 hNM_0 (shM_0 _) rfl dX6_laws_42 ?_
      refine g_iconst X 0 dX6_laws_45 (by decide) ?_
      refine g_ialdK X 0 hNM_1 (shM_1 _) rfl vin_0_7 dX6_laws_46 ?_
      obtain ⟨y4, v5, hc6, h⟩ := gB_inv h
      refine g_callV X (st := [.int x3]) (st' := [.int y4, .int x3]) kcX6_drunkWith kvX6_drunkWith kl6_224 (⟨rfl, rfl, by decide, by decide⟩) (mX6_drunkWith hc6) hNM_0 (shM_0 _) rfl rfl rfl (Nat.le_of_ble_eq_true rfl) rfl dX6_laws_47 ?_
      refine g_iload_n X dX6_laws_50 rfl 1 rfl ?_
      refine g_icmp_ne X 61 dX6_laws_51 (by decide) (fun c => ?_) (fun c => ?_)
      · replace h := gF c h
        refine g_iconst X 0 dX6_laws_61 (by decide) ?_
        refine g_sub X [0, 1, 2, 4] (ls' := [(0, .ref (r 0)), (1, .int x1), (2, .int x2), (4, .int x4)]) rfl ?_
        exact bX6_laws_62 X ih _ _ _ _ _ _  h
      · replace h := gTr c h
        refine g_iconst X 1 dX6_laws_54 (by decide) ?_
        refine g_iload X dX6_laws_55 4 rfl ?_
        refine g_ishl X dX6_laws_57 ?_
        refine g_goto X 62 dX6_laws_58 (by decide) ?_
        refine g_sub X [0, 1, 2, 4] (ls' := [(0, .ref (r 0)), (1, .int x1), (2, .int x2), (4, .int x4)]) rfl ?_
        exact bX6_laws_62 X ih _ _ _ _ _ _  h

set_option maxHeartbeats 4000000 in
set_option maxRecDepth 100000 in
theorem bX6_laws_0 {l : Launch} {D : va_G} {cA : Nat → ClassId} {r : Nat → Nat} {G : gG} {xr : Int32} {v' : gV} (X : XM l D cA r RX6 cX6_laws 5 (some .int) rmX6_laws (some (.int xr)) v' G) (v : gV) (x1 : Int32) (h : fX6_laws v x1 = some (xr, v')) : G v [(0, .ref (r 0)), (1, .int x1)] 0 [] := by
  unfold fX6_laws at h
  refine g_iload_n X dX6_laws_0 rfl 1 rfl ?_
  refine g_iconst X 0 dX6_laws_1 (by decide) ?_
  refine g_sipush X 999 dX6_laws_2 (by decide) ?_
  obtain ⟨y1, v2, hc3, h⟩ := gB_inv h
  refine g_callS X (st := []) (st' := [.int y1]) kcX6_in ktX6_in kl6_78 (⟨rfl, rfl, by decide, by decide⟩) (mX6_in hc3) rfl rfl (Nat.le_of_ble_eq_true rfl) rfl dX6_laws_5 ?_
  refine g_if_ne X 14 dX6_laws_8 (by decide) (fun c => ?_) (fun c => ?_)
  · replace h := gF c h
    refine g_aload_n X dX6_laws_14 rfl 0 rfl ?_
    refine g_get X fl6_85 hNM_0 (shM_0 _) rfl dX6_laws_15 ?_
    refine g_istore_n X (ls' := [(2, .int (v2 0 12)), (0, .ref (r 0)), (1, .int x1)]) dX6_laws_18 rfl (by decide) rfl ?_
    refine g_iconst X 0 dX6_laws_19 (by decide) ?_
    refine g_istore_n X (ls' := [(3, .int 0), (2, .int (v2 0 12)), (0, .ref (r 0)), (1, .int x1)]) dX6_laws_20 rfl (by decide) rfl ?_
    refine g_iconst X 0 dX6_laws_21 (by decide) ?_
    refine g_istore X (ls' := [(4, .int 0), (3, .int 0), (2, .int (v2 0 12)), (0, .ref (r 0)), (1, .int x1)]) dX6_laws_22 (by decide) rfl ?_
    refine g_sub X [3, 4, 2, 1, 0] (ls' := [(0, .ref (r 0)), (1, .int x1), (2, .int (v2 0 12)), (3, .int 0), (4, .int 0)]) rfl ?_
    exact bX6_laws_24 X  _ _ _ _ _ _  h
  · replace h := gTr c h
    refine g_bipush X (-2) dX6_laws_11 (by decide) ?_
    exact g_iretR X h dX6_laws_13

theorem mX6_laws {l : Launch} {D : va_G} {cA : Nat → ClassId} {r : Nat → Nat} {v : gV} {x1 : Int32} {xr : Int32} {v' : gV} (h : fX6_laws v x1 = some (xr, v')) : Ct l D (tysM cA) (shM cA r) 19 r (ZM r) yX6_laws cX6_laws 5 (some .int) rmX6_laws [.ref (r 0), .int x1] v (some (.int xr)) v' := ct_of plX6 ZM_ok (Nat.le_of_ble_eq_true rfl) rfl (fun _ X => bX6_laws_0 X v x1 h)

def rmX6_drunkBy : Room := { frames := 6, cells := 0, slots := 0, locals := 132 }

set_option maxHeartbeats 4000000 in
set_option maxRecDepth 100000 in
theorem bX6_drunkBy_110 {l : Launch} {D : va_G} {cA : Nat → ClassId} {r : Nat → Nat} {G : gG} {xr : Int32} {v' : gV} {k27 : gV → Int32 → Int64 → Int32 → Int32 → Option (Int32 × gV)} (X : XM l D cA r RX6 cX6_drunkBy 8 (some .int) rmX6_drunkBy (some (.int xr)) v' G) (K27 : ∀ (v : gV) (x2 : Int32) (x3 : Int64) (x5 : Int32) (x6 : Int32), k27 v x2 x3 x5 x6 = some (xr, v') → G v [(0, .ref (r 0)), (2, .int x2), (3, .long x3), (5, .int x5), (6, .int x6)] 27 []) (v : gV) (x2 : Int32) (x3 : Int64) (x6 : Int32) (s0 : Int32) (h : fX6_drunkBy_110 k27 v x2 x3 x6 s0 = some (xr, v')) : G v [(0, .ref (r 0)), (2, .int x2), (3, .long x3), (6, .int x6)] 110 [.int s0] := by
  unfold fX6_drunkBy_110 at h
  refine g_istore X (ls' := [(5, .int s0), (0, .ref (r 0)), (2, .int x2), (3, .long x3), (6, .int x6)]) dX6_drunkBy_110 (by decide) rfl ?_
  refine g_iinc X (x6 + 1) [(6, .int (x6 + 1)), (5, .int s0), (0, .ref (r 0)), (2, .int x2), (3, .long x3)] dX6_drunkBy_112 4 rfl rfl (by decide) rfl ?_
  refine g_goto X 27 dX6_drunkBy_115 (by decide) ?_
  refine g_sub X [2, 3, 4, 1, 0] (ls' := [(0, .ref (r 0)), (2, .int x2), (3, .long x3), (5, .int s0), (6, .int (x6 + 1))]) rfl ?_
  exact K27 _ _ _ _ _  h

set_option maxHeartbeats 4000000 in
set_option maxRecDepth 100000 in
theorem bX6_drunkBy_96 {l : Launch} {D : va_G} {cA : Nat → ClassId} {r : Nat → Nat} {G : gG} {xr : Int32} {v' : gV} {k27 : gV → Int32 → Int64 → Int32 → Int32 → Option (Int32 × gV)} (X : XM l D cA r RX6 cX6_drunkBy 8 (some .int) rmX6_drunkBy (some (.int xr)) v' G) (K27 : ∀ (v : gV) (x2 : Int32) (x3 : Int64) (x5 : Int32) (x6 : Int32), k27 v x2 x3 x5 x6 = some (xr, v') → G v [(0, .ref (r 0)), (2, .int x2), (3, .long x3), (5, .int x5), (6, .int x6)] 27 []) (v : gV) (x2 : Int32) (x3 : Int64) (x6 : Int32) (h : fX6_drunkBy_96 k27 v x2 x3 x6 = some (xr, v')) : G v [(0, .ref (r 0)), (2, .int x2), (3, .long x3), (6, .int x6)] 96 [] := by
  unfold fX6_drunkBy_96 at h
  refine g_iload X dX6_drunkBy_96 3 rfl ?_
  refine g_iload_n X dX6_drunkBy_98 rfl 1 rfl ?_
  refine g_icmp_ge X 109 dX6_drunkBy_99 (by decide) (fun c => ?_) (fun c => ?_)
  · replace h := gTr c h
    refine g_iconst X (-1) dX6_drunkBy_109 (by decide) ?_
    exact bX6_drunkBy_110 X K27 _ _ _ _ _  h
  · replace h := gF c h
    refine g_aload_n X dX6_drunkBy_102 rfl 0 rfl ?_
    obtain ⟨y16, v17, hc18, h⟩ := gB_inv h
    refine g_callV X (st := []) (st' := [.int y16]) kcX6_greedy kvX6_greedy kl6_195 (⟨rfl, rfl, by decide, by decide⟩) (mX6_greedy hc18) hNM_0 (shM_0 _) rfl rfl rfl (Nat.le_of_ble_eq_true rfl) rfl dX6_drunkBy_103 ?_
    refine g_goto X 110 dX6_drunkBy_106 (by decide) ?_
    exact bX6_drunkBy_110 X K27 _ _ _ _ _  h

set_option maxHeartbeats 4000000 in
set_option maxRecDepth 100000 in
theorem bX6_drunkBy_94 {l : Launch} {D : va_G} {cA : Nat → ClassId} {r : Nat → Nat} {G : gG} {xr : Int32} {v' : gV} {k27 : gV → Int32 → Int64 → Int32 → Int32 → Option (Int32 × gV)} (X : XM l D cA r RX6 cX6_drunkBy 8 (some .int) rmX6_drunkBy (some (.int xr)) v' G) (K27 : ∀ (v : gV) (x2 : Int32) (x3 : Int64) (x5 : Int32) (x6 : Int32), k27 v x2 x3 x5 x6 = some (xr, v') → G v [(0, .ref (r 0)), (2, .int x2), (3, .long x3), (5, .int x5), (6, .int x6)] 27 []) (v : gV) (x2 : Int32) (x3 : Int64) (x6 : Int32) (s1 : Int32) (s2 : Int32) (s3 : Int32) (h : fX6_drunkBy_94 k27 v x2 x3 x6 s1 s2 s3 = some (xr, v')) : G v [(0, .ref (r 0)), (2, .int x2), (3, .long x3), (6, .int x6)] 94 [.int s3, .int s2, .int s1, .ref (r 1)] := by
  unfold fX6_drunkBy_94 at h
  refine g_isub X dX6_drunkBy_94 ?_
  obtain ⟨c, h⟩ := gGd h
  refine g_iast X hNM_1 (shM_1) rfl (gin_in c) dX6_drunkBy_95 ?_
  exact bX6_drunkBy_96 X K27 _ _ _ _  h

set_option maxHeartbeats 4000000 in
set_option maxRecDepth 100000 in
theorem bX6_drunkBy_93 {l : Launch} {D : va_G} {cA : Nat → ClassId} {r : Nat → Nat} {G : gG} {xr : Int32} {v' : gV} {k27 : gV → Int32 → Int64 → Int32 → Int32 → Option (Int32 × gV)} (X : XM l D cA r RX6 cX6_drunkBy 8 (some .int) rmX6_drunkBy (some (.int xr)) v' G) (K27 : ∀ (v : gV) (x2 : Int32) (x3 : Int64) (x5 : Int32) (x6 : Int32), k27 v x2 x3 x5 x6 = some (xr, v') → G v [(0, .ref (r 0)), (2, .int x2), (3, .long x3), (5, .int x5), (6, .int x6)] 27 []) (v : gV) (x2 : Int32) (x3 : Int64) (x6 : Int32) (s1 : Int32) (s2 : Int32) (h : fX6_drunkBy_93 k27 v x2 x3 x6 s1 s2 = some (xr, v')) : G v [(0, .ref (r 0)), (2, .int x2), (3, .long x3), (6, .int x6)] 93 [.int s2, .int s1, .ref (r 1)] := by
  unfold fX6_drunkBy_93 at h
  refine g_iconst X 0 dX6_drunkBy_93 (by decide) ?_
  exact bX6_drunkBy_94 X K27 _ _ _ _ _ _ _  h

set_option maxHeartbeats 4000000 in
set_option maxRecDepth 100000 in
theorem bX6_drunkBy_27 {l : Launch} {D : va_G} {cA : Nat → ClassId} {r : Nat → Nat} {G : gG} {xr : Int32} {v' : gV} (X : XM l D cA r RX6 cX6_drunkBy 8 (some .int) rmX6_drunkBy (some (.int xr)) v' G) : ∀ (n : Nat) (v : gV) (x2 : Int32) (x3 : Int64) (x5 : Int32) (x6 : Int32), fX6_drunkBy_27 n v x2 x3 x5 x6 = some (xr, v') → G v [(0, .ref (r 0)), (2, .int x2), (3, .long x3), (5, .int x5), (6, .int x6)] 27 [] := by
  intro n
  induction n with
  | zero => intro v x2 x3 x5 x6 h; rw [fX6_drunkBy_27] at h; cases h
  | succ n ih =>
    intro v x2 x3 x5 x6 h
    rw [fX6_drunkBy_27] at h
    refine g_iload X dX6_drunkBy_27 3 rfl ?_
    refine g_iconst X (-1) dX6_drunkBy_29 (by decide) ?_
    refine g_icmp_eq X 118 dX6_drunkBy_30 (by decide) (fun c => ?_) (fun c => ?_)
    · replace h := gTr c h
      refine g_aload_n X dX6_drunkBy_118 rfl 0 rfl ?_
      refine g_get X fl6_7 hNM_0 (shM_0 _) rfl dX6_drunkBy_119 ?_
      refine g_iconst X 5 dX6_drunkBy_122 (by decide) ?_
      refine g_ialdK X 5 hNM_1 (shM_1 _) rfl vin_5_7 dX6_drunkBy_123 ?_
      refine g_istore X (ls' := [(6, .int (v 1 5)), (0, .ref (r 0)), (2, .int x2), (3, .long x3), (5, .int x5)]) dX6_drunkBy_124 (by decide) rfl ?_
      refine g_aload_n X dX6_drunkBy_126 rfl 1 rfl ?_
      refine g_iconst X 0 dX6_drunkBy_127 (by decide) ?_
      obtain ⟨y7, v8, hc9, h⟩ := gB_inv h
      refine g_callV X (st := []) (st' := []) kcX6_laysBack kvX6_laysBack kl6_204 (⟨rfl, rfl, by decide, by decide⟩) (mX6_laysBack hc9) hNM_0 (shM_0 _) rfl rfl rfl (Nat.le_of_ble_eq_true rfl) rfl dX6_drunkBy_128 ?_
      refine g_iload X dX6_drunkBy_131 0 rfl ?_
      exact g_iretR X h dX6_drunkBy_133
    · replace h := gF c h
      refine g_aload_n X dX6_drunkBy_33 rfl 0 rfl ?_
      refine g_iconst X 2 dX6_drunkBy_34 (by decide) ?_
      obtain ⟨y10, v11, hc12, h⟩ := gB_inv h
      refine g_callV X (st := []) (st' := [.int y10]) kcX6_asksOf kvX6_asksOf kl6_158 (⟨rfl, rfl, by decide, by decide⟩) (mX6_asksOf hc12) hNM_0 (shM_0 _) rfl rfl rfl (Nat.le_of_ble_eq_true rfl) rfl dX6_drunkBy_35 ?_
      refine g_istore X (ls' := [(7, .int y10), (0, .ref (r 0)), (2, .int x2), (3, .long x3), (5, .int x5), (6, .int x6)]) dX6_drunkBy_38 (by decide) rfl ?_
      refine g_aload_n X dX6_drunkBy_40 rfl 1 rfl ?_
      refine g_iload X dX6_drunkBy_41 4 rfl ?_
      obtain ⟨y13, v14, hc15, h⟩ := gB_inv h
      refine g_callV X (st := []) (st' := []) kcX6_goes kvX6_goes kl6_192 (⟨rfl, rfl, by decide, by decide⟩) (mX6_goes hc15) hNM_0 (shM_0 _) rfl rfl rfl (Nat.le_of_ble_eq_true rfl) rfl dX6_drunkBy_43 ?_
      refine g_iload X dX6_drunkBy_46 4 rfl ?_
      refine g_if_ne X 96 dX6_drunkBy_48 (by decide) (fun c => ?_) (fun c => ?_)
      · replace h := gF c h
        refine g_sub X [1, 2, 3, 5] (ls' := [(0, .ref (r 0)), (2, .int x2), (3, .long x3), (6, .int x6)]) rfl ?_
        exact bX6_drunkBy_96 X ih _ _ _ _  h
      · replace h := gTr c h
        refine g_lload_n X dX6_drunkBy_51 rfl 3 rfl ?_
        refine g_ldc2 X kk6_242 dX6_drunkBy_52 ?_
        refine g_lmul X dX6_drunkBy_55 ?_
        refine g_ldc2 X kk6_244 dX6_drunkBy_56 ?_
        refine g_lrem X dX6_drunkBy_59 (by decide) ?_
        refine g_lstore_n X (ls' := [(3, .long ((x3 * 48271) - (x3 * 48271) / 2147483647 * 2147483647)), (7, .int y10), (0, .ref (r 0)), (2, .int x2), (5, .int x5), (6, .int x6)]) dX6_drunkBy_60 rfl (by decide) rfl ?_
        refine g_aload_n X dX6_drunkBy_61 rfl 2 rfl ?_
        refine g_get X fl6_7 hNM_0 (shM_0 _) rfl dX6_drunkBy_62 ?_
        refine g_iconst X 1 dX6_drunkBy_65 (by decide) ?_
        refine g_dup2 X dX6_drunkBy_66 rfl rfl ?_
        refine g_ialdK X 1 hNM_1 (shM_1 _) rfl vin_1_7 dX6_drunkBy_67 ?_
        refine g_aload_n X dX6_drunkBy_68 rfl 2 rfl ?_
        refine g_get X fl6_7 hNM_0 (shM_0 _) rfl dX6_drunkBy_69 ?_
        refine g_iconst X 1 dX6_drunkBy_72 (by decide) ?_
        refine g_ialdK X 1 hNM_1 (shM_1 _) rfl vin_1_7 dX6_drunkBy_73 ?_
        refine g_if_le X 93 dX6_drunkBy_74 (by decide) (fun c => ?_) (fun c => ?_)
        · replace h := gTr c h
          refine g_sub X [2, 3, 0, 5] (ls' := [(0, .ref (r 0)), (2, .int x2), (3, .long ((x3 * 48271) - (x3 * 48271) / 2147483647 * 2147483647)), (6, .int x6)]) rfl ?_
          exact bX6_drunkBy_93 X ih _ _ _ _ _ _  h
        · replace h := gF c h
          refine g_lload_n X dX6_drunkBy_77 rfl 0 rfl ?_
          refine g_ldc2 X kk6_246 dX6_drunkBy_78 ?_
          refine g_lrem X dX6_drunkBy_81 (by decide) ?_
          refine g_iload X dX6_drunkBy_82 1 rfl ?_
          refine g_i2l X dX6_drunkBy_84 ?_
          refine g_lcmp X dX6_drunkBy_85 ?_
          refine g_if_ge X 93 dX6_drunkBy_86 (by decide) (fun c => ?_) (fun c => ?_)
          · replace h := gTr c h
            refine g_sub X [2, 3, 0, 5] (ls' := [(0, .ref (r 0)), (2, .int x2), (3, .long ((x3 * 48271) - (x3 * 48271) / 2147483647 * 2147483647)), (6, .int x6)]) rfl ?_
            exact bX6_drunkBy_93 X ih _ _ _ _ _ _  h
          · replace h := gF c h
            refine g_iconst X 1 dX6_drunkBy_89 (by decide) ?_
            refine g_goto X 94 dX6_drunkBy_90 (by decide) ?_
            refine g_sub X [2, 3, 0, 5] (ls' := [(0, .ref (r 0)), (2, .int x2), (3, .long ((x3 * 48271) - (x3 * 48271) / 2147483647 * 2147483647)), (6, .int x6)]) rfl ?_
            exact bX6_drunkBy_94 X ih _ _ _ _ _ _ _  h

set_option maxHeartbeats 4000000 in
set_option maxRecDepth 100000 in
theorem bX6_drunkBy_22 {l : Launch} {D : va_G} {cA : Nat → ClassId} {r : Nat → Nat} {G : gG} {xr : Int32} {v' : gV} (X : XM l D cA r RX6 cX6_drunkBy 8 (some .int) rmX6_drunkBy (some (.int xr)) v' G) (v : gV) (x2 : Int32) (x3 : Int64) (s0 : Int32) (h : fX6_drunkBy_22 v x2 x3 s0 = some (xr, v')) : G v [(0, .ref (r 0)), (2, .int x2), (3, .long x3)] 22 [.int s0] := by
  unfold fX6_drunkBy_22 at h
  refine g_istore X (ls' := [(5, .int s0), (0, .ref (r 0)), (2, .int x2), (3, .long x3)]) dX6_drunkBy_22 (by decide) rfl ?_
  refine g_iconst X 1 dX6_drunkBy_24 (by decide) ?_
  refine g_istore X (ls' := [(6, .int 1), (5, .int s0), (0, .ref (r 0)), (2, .int x2), (3, .long x3)]) dX6_drunkBy_25 (by decide) rfl ?_
  refine g_sub X [2, 3, 4, 1, 0] (ls' := [(0, .ref (r 0)), (2, .int x2), (3, .long x3), (5, .int s0), (6, .int 1)]) rfl ?_
  exact bX6_drunkBy_27 X  _ _ _ _ _ _  h

set_option maxHeartbeats 4000000 in
set_option maxRecDepth 100000 in
theorem bX6_drunkBy_0 {l : Launch} {D : va_G} {cA : Nat → ClassId} {r : Nat → Nat} {G : gG} {xr : Int32} {v' : gV} (X : XM l D cA r RX6 cX6_drunkBy 8 (some .int) rmX6_drunkBy (some (.int xr)) v' G) (v : gV) (x1 : Int32) (x2 : Int32) (h : fX6_drunkBy v x1 x2 = some (xr, v')) : G v [(0, .ref (r 0)), (1, .int x1), (2, .int x2)] 0 [] := by
  unfold fX6_drunkBy at h
  refine g_iload_n X dX6_drunkBy_0 rfl 1 rfl ?_
  refine g_i2l X dX6_drunkBy_1 ?_
  refine g_lconst X 1 dX6_drunkBy_2 (by decide) ?_
  refine g_ladd X dX6_drunkBy_3 ?_
  refine g_lstore_n X (ls' := [(3, .long (x1.toInt64 + 1)), (0, .ref (r 0)), (1, .int x1), (2, .int x2)]) dX6_drunkBy_4 rfl (by decide) rfl ?_
  refine g_aload_n X dX6_drunkBy_5 rfl 1 rfl ?_
  refine g_iconst X 0 dX6_drunkBy_6 (by decide) ?_
  obtain ⟨y1, v2, hc3, h⟩ := gB_inv h
  refine g_callV X (st := []) (st' := []) kcX6_keeps kvX6_keeps kl6_198 (⟨rfl, rfl, by decide, by decide⟩) (mX6_keeps hc3) hNM_0 (shM_0 _) rfl rfl rfl (Nat.le_of_ble_eq_true rfl) rfl dX6_drunkBy_7 ?_
  refine g_iload_n X dX6_drunkBy_10 rfl 3 rfl ?_
  refine g_if_le X 21 dX6_drunkBy_11 (by decide) (fun c => ?_) (fun c => ?_)
  · replace h := gTr c h
    refine g_iconst X (-1) dX6_drunkBy_21 (by decide) ?_
    refine g_sub X [1, 3, 0] (ls' := [(0, .ref (r 0)), (2, .int x2), (3, .long (x1.toInt64 + 1))]) rfl ?_
    exact bX6_drunkBy_22 X  _ _ _ _  h
  · replace h := gF c h
    refine g_aload_n X dX6_drunkBy_14 rfl 1 rfl ?_
    obtain ⟨y4, v5, hc6, h⟩ := gB_inv h
    refine g_callV X (st := []) (st' := [.int y4]) kcX6_greedy kvX6_greedy kl6_195 (⟨rfl, rfl, by decide, by decide⟩) (mX6_greedy hc6) hNM_0 (shM_0 _) rfl rfl rfl (Nat.le_of_ble_eq_true rfl) rfl dX6_drunkBy_15 ?_
    refine g_goto X 22 dX6_drunkBy_18 (by decide) ?_
    refine g_sub X [1, 3, 0] (ls' := [(0, .ref (r 0)), (2, .int x2), (3, .long (x1.toInt64 + 1))]) rfl ?_
    exact bX6_drunkBy_22 X  _ _ _ _  h

theorem mX6_drunkBy {l : Launch} {D : va_G} {cA : Nat → ClassId} {r : Nat → Nat} {v : gV} {x1 : Int32} {x2 : Int32} {xr : Int32} {v' : gV} (h : fX6_drunkBy v x1 x2 = some (xr, v')) : Ct l D (tysM cA) (shM cA r) 19 r (ZM r) yX6_drunkBy cX6_drunkBy 8 (some .int) rmX6_drunkBy [.ref (r 0), .int x1, .int x2] v (some (.int xr)) v' := ct_of plX6 ZM_ok (Nat.le_of_ble_eq_true rfl) rfl (fun _ X => bX6_drunkBy_0 X v x1 x2 h)

def rmX6_isDrawn : Room := { frames := 1, cells := 0, slots := 0, locals := 22 }

set_option maxHeartbeats 4000000 in
set_option maxRecDepth 100000 in
theorem bX6_isDrawn_0 {l : Launch} {D : va_G} {cA : Nat → ClassId} {r : Nat → Nat} {G : gG} {xr : Int32} {v' : gV} (X : XM l D cA r RX6 cX6_isDrawn 2 (some .boolean) rmX6_isDrawn (some (.int xr)) v' G) (v : gV) (x0 : Int32) (x1 : Int32) (h : fX6_isDrawn v x0 x1 = some (xr, v')) : G v [(0, .int x0), (1, .int x1)] 0 [] := by
  unfold fX6_isDrawn at h
  refine g_iload_n X dX6_isDrawn_0 rfl 0 rfl ?_
  refine g_iconst X 0 dX6_isDrawn_1 (by decide) ?_
  refine g_ldc X kk6_248 dX6_isDrawn_2 ?_
  obtain ⟨y1, v2, hc3, h⟩ := gB_inv h
  refine g_callS X (st := []) (st' := [.int y1]) kcX6_in ktX6_in kl6_78 (⟨rfl, rfl, by decide, by decide⟩) (mX6_in hc3) rfl rfl (Nat.le_of_ble_eq_true rfl) rfl dX6_isDrawn_4 ?_
  refine g_if_eq X 25 dX6_isDrawn_7 (by decide) (fun c => ?_) (fun c => ?_)
  · replace h := gTr c h
    refine g_iconst X 0 dX6_isDrawn_25 (by decide) ?_
    exact g_zretR X (Or.inl rfl) h dX6_isDrawn_26
  · replace h := gF c h
    refine g_iload_n X dX6_isDrawn_10 rfl 1 rfl ?_
    refine g_iconst X 0 dX6_isDrawn_11 (by decide) ?_
    refine g_sipush X 200 dX6_isDrawn_12 (by decide) ?_
    obtain ⟨y4, v5, hc6, h⟩ := gB_inv h
    refine g_callS X (st := []) (st' := [.int y4]) kcX6_in ktX6_in kl6_78 (⟨rfl, rfl, by decide, by decide⟩) (mX6_in hc6) rfl rfl (Nat.le_of_ble_eq_true rfl) rfl dX6_isDrawn_15 ?_
    refine g_if_eq X 25 dX6_isDrawn_18 (by decide) (fun c => ?_) (fun c => ?_)
    · replace h := gTr c h
      refine g_iconst X 0 dX6_isDrawn_25 (by decide) ?_
      exact g_zretR X (Or.inl rfl) h dX6_isDrawn_26
    · replace h := gF c h
      refine g_iconst X 1 dX6_isDrawn_21 (by decide) ?_
      refine g_goto X 26 dX6_isDrawn_22 (by decide) ?_
      exact g_zretR X (Or.inr rfl) h dX6_isDrawn_26

theorem mX6_isDrawn {l : Launch} {D : va_G} {cA : Nat → ClassId} {r : Nat → Nat} {v : gV} {x0 : Int32} {x1 : Int32} {xr : Int32} {v' : gV} (h : fX6_isDrawn v x0 x1 = some (xr, v')) : Ct l D (tysM cA) (shM cA r) 19 r (ZM r) yX6_isDrawn cX6_isDrawn 2 (some .boolean) rmX6_isDrawn [.int x0, .int x1] v (some (.int xr)) v' := ct_of plX6 ZM_ok (Nat.le_of_ble_eq_true rfl) rfl (fun _ X => bX6_isDrawn_0 X v x0 x1 h)

def rmX6_drawn : Room := { frames := 7, cells := 0, slots := 0, locals := 159 }

set_option maxHeartbeats 4000000 in
set_option maxRecDepth 100000 in
theorem bX6_drawn_0 {l : Launch} {D : va_G} {cA : Nat → ClassId} {r : Nat → Nat} {G : gG} {xr : Int32} {v' : gV} (X : XM l D cA r RX6 cX6_drawn 3 (some .int) rmX6_drawn (some (.int xr)) v' G) (v : gV) (x1 : Int32) (x2 : Int32) (h : fX6_drawn v x1 x2 = some (xr, v')) : G v [(0, .ref (r 0)), (1, .int x1), (2, .int x2)] 0 [] := by
  unfold fX6_drawn at h
  refine g_iload_n X dX6_drawn_0 rfl 1 rfl ?_
  refine g_iload_n X dX6_drawn_1 rfl 2 rfl ?_
  obtain ⟨y1, v2, hc3, h⟩ := gB_inv h
  refine g_callS X (st := []) (st' := [.int y1]) kcX6_isDrawn ktX6_isDrawn kl6_249 (⟨rfl, rfl, by decide, by decide⟩) (mX6_isDrawn hc3) rfl rfl (Nat.le_of_ble_eq_true rfl) rfl dX6_drawn_2 ?_
  refine g_if_eq X 17 dX6_drawn_5 (by decide) (fun c => ?_) (fun c => ?_)
  · replace h := gTr c h
    refine g_bipush X (-2) dX6_drawn_17 (by decide) ?_
    exact g_iretR X h dX6_drawn_19
  · replace h := gF c h
    refine g_aload_n X dX6_drawn_8 rfl 0 rfl ?_
    refine g_iload_n X dX6_drawn_9 rfl 1 rfl ?_
    refine g_iload_n X dX6_drawn_10 rfl 2 rfl ?_
    obtain ⟨y4, v5, hc6, h⟩ := gB_inv h
    refine g_callV X (st := []) (st' := [.int y4]) kcX6_drunkBy kvX6_drunkBy kl6_252 (⟨rfl, rfl, by decide, by decide⟩) (mX6_drunkBy hc6) hNM_0 (shM_0 _) rfl rfl rfl (Nat.le_of_ble_eq_true rfl) rfl dX6_drawn_11 ?_
    refine g_goto X 19 dX6_drawn_14 (by decide) ?_
    exact g_iretR X h dX6_drawn_19

theorem mX6_drawn {l : Launch} {D : va_G} {cA : Nat → ClassId} {r : Nat → Nat} {v : gV} {x1 : Int32} {x2 : Int32} {xr : Int32} {v' : gV} (h : fX6_drawn v x1 x2 = some (xr, v')) : Ct l D (tysM cA) (shM cA r) 19 r (ZM r) yX6_drawn cX6_drawn 3 (some .int) rmX6_drawn [.ref (r 0), .int x1, .int x2] v (some (.int xr)) v' := ct_of plX6 ZM_ok (Nat.le_of_ble_eq_true rfl) rfl (fun _ X => bX6_drawn_0 X v x1 x2 h)

def rmX6_lowest : Room := { frames := 0, cells := 0, slots := 0, locals := 0 }

set_option maxHeartbeats 4000000 in
set_option maxRecDepth 100000 in
theorem bX6_lowest_16 {l : Launch} {D : va_G} {cA : Nat → ClassId} {r : Nat → Nat} {G : gG} {xr : Int64} {v' : gV} (X : XM l D cA r RX6 cX6_lowest 11 (some .long) rmX6_lowest (some (.long xr)) v' G) : ∀ (n : Nat) (v : gV) (x0 : Int64) (x2 : Int64) (x4 : Int32) (x5 : Int64) (x7 : Int64), fX6_lowest_16 n v x0 x2 x4 x5 x7 = some (xr, v') → G v [(0, .long x0), (2, .long x2), (4, .int x4), (5, .long x5), (7, .long x7)] 16 [] := by
  intro n
  induction n with
  | zero => intro v x0 x2 x4 x5 x7 h; rw [fX6_lowest_16] at h; cases h
  | succ n ih =>
    intro v x0 x2 x4 x5 x7 h
    rw [fX6_lowest_16] at h
    refine g_lload X dX6_lowest_16 4 rfl ?_
    refine g_lconst X 0 dX6_lowest_18 (by decide) ?_
    refine g_lcmp X dX6_lowest_19 ?_
    refine g_if_eq X 41 dX6_lowest_20 (by decide) (fun c => ?_) (fun c => ?_)
    · replace h := gTr c h
      refine g_iload X dX6_lowest_41 2 rfl ?_
      refine g_if_ne X 50 dX6_lowest_43 (by decide) (fun c => ?_) (fun c => ?_)
      · replace h := gF c h
        refine g_lload_n X dX6_lowest_50 rfl 1 rfl ?_
        refine g_lload X dX6_lowest_51 3 rfl ?_
        obtain ⟨c, h⟩ := gGN h
        refine g_ldiv X dX6_lowest_53 c ?_
        exact g_lretR X h dX6_lowest_54
      · replace h := gTr c h
        refine g_lload_n X dX6_lowest_46 rfl 0 rfl ?_
        refine g_goto X 51 dX6_lowest_47 (by decide) ?_
        refine g_lload X dX6_lowest_51 3 rfl ?_
        obtain ⟨c, h⟩ := gGN h
        refine g_ldiv X dX6_lowest_53 c ?_
        exact g_lretR X h dX6_lowest_54
    · replace h := gF c h
      refine g_lload X dX6_lowest_23 3 rfl ?_
      refine g_lload X dX6_lowest_25 4 rfl ?_
      obtain ⟨c, h⟩ := gGN h
      refine g_lrem X dX6_lowest_27 c ?_
      refine g_lstore X (ls' := [(9, .long (x5 - x5 / x7 * x7)), (0, .long x0), (2, .long x2), (4, .int x4), (5, .long x5), (7, .long x7)]) dX6_lowest_28 (by decide) rfl ?_
      refine g_lload X dX6_lowest_30 5 rfl ?_
      refine g_lstore X (ls' := [(5, .long x7), (9, .long (x5 - x5 / x7 * x7)), (0, .long x0), (2, .long x2), (4, .int x4), (7, .long x7)]) dX6_lowest_32 (by decide) rfl ?_
      refine g_lload X dX6_lowest_34 1 rfl ?_
      refine g_lstore X (ls' := [(7, .long (x5 - x5 / x7 * x7)), (5, .long x7), (9, .long (x5 - x5 / x7 * x7)), (0, .long x0), (2, .long x2), (4, .int x4)]) dX6_lowest_36 (by decide) rfl ?_
      refine g_goto X 16 dX6_lowest_38 (by decide) ?_
      refine g_sub X [3, 4, 5, 1, 0] (ls' := [(0, .long x0), (2, .long x2), (4, .int x4), (5, .long x7), (7, .long (x5 - x5 / x7 * x7))]) rfl ?_
      exact ih _ _ _ _ _ _  h

set_option maxHeartbeats 4000000 in
set_option maxRecDepth 100000 in
theorem bX6_lowest_0 {l : Launch} {D : va_G} {cA : Nat → ClassId} {r : Nat → Nat} {G : gG} {xr : Int64} {v' : gV} (X : XM l D cA r RX6 cX6_lowest 11 (some .long) rmX6_lowest (some (.long xr)) v' G) (v : gV) (x0 : Int64) (x2 : Int64) (x4 : Int32) (h : fX6_lowest v x0 x2 x4 = some (xr, v')) : G v [(0, .long x0), (2, .long x2), (4, .int x4)] 0 [] := by
  unfold fX6_lowest at h
  refine g_lload_n X dX6_lowest_0 rfl 0 rfl ?_
  refine g_lconst X 0 dX6_lowest_1 (by decide) ?_
  refine g_lcmp X dX6_lowest_2 ?_
  refine g_if_ne X 10 dX6_lowest_3 (by decide) (fun c => ?_) (fun c => ?_)
  · replace h := gF c h
    refine g_lload_n X dX6_lowest_10 rfl 0 rfl ?_
    refine g_lstore X (ls' := [(5, .long x0), (0, .long x0), (2, .long x2), (4, .int x4)]) dX6_lowest_11 (by decide) rfl ?_
    refine g_lload_n X dX6_lowest_13 rfl 2 rfl ?_
    refine g_lstore X (ls' := [(7, .long x2), (5, .long x0), (0, .long x0), (2, .long x2), (4, .int x4)]) dX6_lowest_14 (by decide) rfl ?_
    refine g_sub X [2, 3, 4, 1, 0] (ls' := [(0, .long x0), (2, .long x2), (4, .int x4), (5, .long x0), (7, .long x2)]) rfl ?_
    exact bX6_lowest_16 X  _ _ _ _ _ _ _  h
  · replace h := gTr c h
    refine g_iload X dX6_lowest_6 2 rfl ?_
    refine g_i2l X dX6_lowest_8 ?_
    exact g_lretR X h dX6_lowest_9

theorem mX6_lowest {l : Launch} {D : va_G} {cA : Nat → ClassId} {r : Nat → Nat} {v : gV} {x0 : Int64} {x2 : Int64} {x4 : Int32} {xr : Int64} {v' : gV} (h : fX6_lowest v x0 x2 x4 = some (xr, v')) : Ct l D (tysM cA) (shM cA r) 19 r (ZM r) yX6_lowest cX6_lowest 11 (some .long) rmX6_lowest [.long x0, .long x2, .int x4] v (some (.long xr)) v' := ct_of plX6 ZM_ok (Nat.le_of_ble_eq_true rfl) rfl (fun _ X => bX6_lowest_0 X v x0 x2 x4 h)

def rmX6_mean : Room := { frames := 7, cells := 0, slots := 0, locals := 159 }

set_option maxHeartbeats 4000000 in
set_option maxRecDepth 100000 in
theorem bX6_mean_38 {l : Launch} {D : va_G} {cA : Nat → ClassId} {r : Nat → Nat} {G : gG} {xr : Int64} {v' : gV} (X : XM l D cA r RX6 cX6_mean 8 (some .long) rmX6_mean (some (.long xr)) v' G) : ∀ (n : Nat) (v : gV) (x1 : Int32) (x2 : Int32) (x3 : Int32) (x4 : Int32) (x5 : Int64) (x7 : Int32), fX6_mean_38 n v x1 x2 x3 x4 x5 x7 = some (xr, v') → G v [(0, .ref (r 0)), (1, .int x1), (2, .int x2), (3, .int x3), (4, .int x4), (5, .long x5), (7, .int x7)] 38 [] := by
  intro n
  induction n with
  | zero => intro v x1 x2 x3 x4 x5 x7 h; rw [fX6_mean_38] at h; cases h
  | succ n ih =>
    intro v x1 x2 x3 x4 x5 x7 h
    rw [fX6_mean_38] at h
    refine g_iload X dX6_mean_38 6 rfl ?_
    refine g_iload_n X dX6_mean_40 rfl 2 rfl ?_
    refine g_icmp_ge X 65 dX6_mean_41 (by decide) (fun c => ?_) (fun c => ?_)
    · replace h := gTr c h
      refine g_lload X dX6_mean_65 5 rfl ?_
      refine g_iload_n X dX6_mean_67 rfl 2 rfl ?_
      refine g_i2l X dX6_mean_68 ?_
      refine g_iload X dX6_mean_69 4 rfl ?_
      obtain ⟨y10, v11, hc12, h⟩ := gB_inv h
      refine g_callS X (st := []) (st' := [.long y10]) kcX6_lowest ktX6_lowest kl6_255 (⟨rfl, rfl, by decide, by decide⟩) (mX6_lowest hc12) rfl rfl (Nat.le_of_ble_eq_true rfl) rfl dX6_mean_71 ?_
      exact g_lretR X h dX6_mean_74
    · replace h := gF c h
      refine g_lload X dX6_mean_44 5 rfl ?_
      refine g_aload_n X dX6_mean_46 rfl 0 rfl ?_
      refine g_iload_n X dX6_mean_47 rfl 1 rfl ?_
      refine g_iload X dX6_mean_48 6 rfl ?_
      refine g_iadd X dX6_mean_50 ?_
      refine g_iload_n X dX6_mean_51 rfl 3 rfl ?_
      obtain ⟨y13, v14, hc15, h⟩ := gB_inv h
      refine g_callV X (st := [.long x5]) (st' := [.int y13, .long x5]) kcX6_drunkBy kvX6_drunkBy kl6_252 (⟨rfl, rfl, by decide, by decide⟩) (mX6_drunkBy hc15) hNM_0 (shM_0 _) rfl rfl rfl (Nat.le_of_ble_eq_true rfl) rfl dX6_mean_52 ?_
      refine g_i2l X dX6_mean_55 ?_
      refine g_ladd X dX6_mean_56 ?_
      refine g_lstore X (ls' := [(5, .long (x5 + y13.toInt64)), (0, .ref (r 0)), (1, .int x1), (2, .int x2), (3, .int x3), (4, .int x4), (7, .int x7)]) dX6_mean_57 (by decide) rfl ?_
      refine g_iinc X (x7 + 1) [(7, .int (x7 + 1)), (5, .long (x5 + y13.toInt64)), (0, .ref (r 0)), (1, .int x1), (2, .int x2), (3, .int x3), (4, .int x4)] dX6_mean_59 6 rfl rfl (by decide) rfl ?_
      refine g_goto X 38 dX6_mean_62 (by decide) ?_
      refine g_sub X [2, 3, 4, 5, 6, 1, 0] (ls' := [(0, .ref (r 0)), (1, .int x1), (2, .int x2), (3, .int x3), (4, .int x4), (5, .long (x5 + y13.toInt64)), (7, .int (x7 + 1))]) rfl ?_
      exact ih _ _ _ _ _ _ _  h

set_option maxHeartbeats 4000000 in
set_option maxRecDepth 100000 in
theorem bX6_mean_0 {l : Launch} {D : va_G} {cA : Nat → ClassId} {r : Nat → Nat} {G : gG} {xr : Int64} {v' : gV} (X : XM l D cA r RX6 cX6_mean 8 (some .long) rmX6_mean (some (.long xr)) v' G) (v : gV) (x1 : Int32) (x2 : Int32) (x3 : Int32) (x4 : Int32) (h : fX6_mean v x1 x2 x3 x4 = some (xr, v')) : G v [(0, .ref (r 0)), (1, .int x1), (2, .int x2), (3, .int x3), (4, .int x4)] 0 [] := by
  unfold fX6_mean at h
  refine g_iload_n X dX6_mean_0 rfl 1 rfl ?_
  refine g_iload_n X dX6_mean_1 rfl 3 rfl ?_
  obtain ⟨y1, v2, hc3, h⟩ := gB_inv h
  refine g_callS X (st := []) (st' := [.int y1]) kcX6_isDrawn ktX6_isDrawn kl6_249 (⟨rfl, rfl, by decide, by decide⟩) (mX6_isDrawn hc3) rfl rfl (Nat.le_of_ble_eq_true rfl) rfl dX6_mean_2 ?_
  refine g_if_eq X 28 dX6_mean_5 (by decide) (fun c => ?_) (fun c => ?_)
  · replace h := gTr c h
    refine g_ldc2 X kk6_227 dX6_mean_28 ?_
    exact g_lretR X h dX6_mean_31
  · replace h := gF c h
    refine g_iload_n X dX6_mean_8 rfl 2 rfl ?_
    refine g_iconst X 1 dX6_mean_9 (by decide) ?_
    refine g_bipush X 30 dX6_mean_10 (by decide) ?_
    obtain ⟨y4, v5, hc6, h⟩ := gB_inv h
    refine g_callS X (st := []) (st' := [.int y4]) kcX6_in ktX6_in kl6_78 (⟨rfl, rfl, by decide, by decide⟩) (mX6_in hc6) rfl rfl (Nat.le_of_ble_eq_true rfl) rfl dX6_mean_12 ?_
    refine g_if_eq X 28 dX6_mean_15 (by decide) (fun c => ?_) (fun c => ?_)
    · replace h := gTr c h
      refine g_ldc2 X kk6_227 dX6_mean_28 ?_
      exact g_lretR X h dX6_mean_31
    · replace h := gF c h
      refine g_iload X dX6_mean_18 4 rfl ?_
      refine g_iconst X 0 dX6_mean_20 (by decide) ?_
      refine g_iconst X 1 dX6_mean_21 (by decide) ?_
      obtain ⟨y7, v8, hc9, h⟩ := gB_inv h
      refine g_callS X (st := []) (st' := [.int y7]) kcX6_in ktX6_in kl6_78 (⟨rfl, rfl, by decide, by decide⟩) (mX6_in hc9) rfl rfl (Nat.le_of_ble_eq_true rfl) rfl dX6_mean_22 ?_
      refine g_if_ne X 32 dX6_mean_25 (by decide) (fun c => ?_) (fun c => ?_)
      · replace h := gF c h
        refine g_lconst X 0 dX6_mean_32 (by decide) ?_
        refine g_lstore X (ls' := [(5, .long 0), (0, .ref (r 0)), (1, .int x1), (2, .int x2), (3, .int x3), (4, .int x4)]) dX6_mean_33 (by decide) rfl ?_
        refine g_iconst X 0 dX6_mean_35 (by decide) ?_
        refine g_istore X (ls' := [(7, .int 0), (5, .long 0), (0, .ref (r 0)), (1, .int x1), (2, .int x2), (3, .int x3), (4, .int x4)]) dX6_mean_36 (by decide) rfl ?_
        refine g_sub X [2, 3, 4, 5, 6, 1, 0] (ls' := [(0, .ref (r 0)), (1, .int x1), (2, .int x2), (3, .int x3), (4, .int x4), (5, .long 0), (7, .int 0)]) rfl ?_
        exact bX6_mean_38 X  _ _ _ _ _ _ _ _  h
      · replace h := gTr c h
        refine g_ldc2 X kk6_227 dX6_mean_28 ?_
        exact g_lretR X h dX6_mean_31

theorem mX6_mean {l : Launch} {D : va_G} {cA : Nat → ClassId} {r : Nat → Nat} {v : gV} {x1 : Int32} {x2 : Int32} {x3 : Int32} {x4 : Int32} {xr : Int64} {v' : gV} (h : fX6_mean v x1 x2 x3 x4 = some (xr, v')) : Ct l D (tysM cA) (shM cA r) 19 r (ZM r) yX6_mean cX6_mean 8 (some .long) rmX6_mean [.ref (r 0), .int x1, .int x2, .int x3, .int x4] v (some (.long xr)) v' := ct_of plX6 ZM_ok (Nat.le_of_ble_eq_true rfl) rfl (fun _ X => bX6_mean_0 X v x1 x2 x3 x4 h)

def rmX6_image : Room := { frames := 0, cells := 0, slots := 0, locals := 0 }

set_option maxHeartbeats 4000000 in
set_option maxRecDepth 100000 in
theorem bX6_image_49 {l : Launch} {D : va_G} {cA : Nat → ClassId} {r : Nat → Nat} {G : gG} {xr : Int32} {v' : gV} (X : XM l D cA r RX6 cX6_image 2 (some .int) rmX6_image (some (.int xr)) v' G) : ∀ (n : Nat) (v : gV) (x1 : Int32), fX6_image_49 n v x1 = some (xr, v') → G v [(0, .ref (r 0)), (1, .int x1)] 49 [] := by
  intro n
  induction n with
  | zero => intro v x1 h; rw [fX6_image_49] at h; cases h
  | succ n ih =>
    intro v x1 h
    rw [fX6_image_49] at h
    refine g_iload_n X dX6_image_49 rfl 1 rfl ?_
    refine g_iconst X 5 dX6_image_50 (by decide) ?_
    refine g_icmp_ge X 90 dX6_image_51 (by decide) (fun c => ?_) (fun c => ?_)
    · replace h := gTr c h
      refine g_aload_n X dX6_image_90 rfl 0 rfl ?_
      refine g_get X fl6_75 hNM_0 (shM_0 _) rfl dX6_image_91 ?_
      exact g_iretR X h dX6_image_94
    · replace h := gF c h
      refine g_aload_n X dX6_image_54 rfl 0 rfl ?_
      refine g_get X fl6_38 hNM_0 (shM_0 _) rfl dX6_image_55 ?_
      refine g_bipush X 7 dX6_image_58 (by decide) ?_
      refine g_iload_n X dX6_image_60 rfl 1 rfl ?_
      refine g_iadd X dX6_image_61 ?_
      refine g_aload_n X dX6_image_62 rfl 0 rfl ?_
      refine g_get X fl6_13 hNM_0 (shM_0 _) rfl dX6_image_63 ?_
      refine g_iload_n X dX6_image_66 rfl 1 rfl ?_
      obtain ⟨c, h⟩ := gGd h
      refine g_iald X hNM_2 (shM_2 _) rfl (gin_in c) dX6_image_67 ?_
      obtain ⟨c, h⟩ := gGd h
      refine g_iast X hNM_9 (shM_9) rfl (gin_in c) dX6_image_68 ?_
      refine g_aload_n X dX6_image_69 rfl 0 rfl ?_
      refine g_get X fl6_38 hNM_0 (shM_0 _) rfl dX6_image_70 ?_
      refine g_bipush X 12 dX6_image_73 (by decide) ?_
      refine g_iload_n X dX6_image_75 rfl 1 rfl ?_
      refine g_iadd X dX6_image_76 ?_
      refine g_aload_n X dX6_image_77 rfl 0 rfl ?_
      refine g_get X fl6_22 hNM_0 (shM_0 _) rfl dX6_image_78 ?_
      refine g_iload_n X dX6_image_81 rfl 1 rfl ?_
      obtain ⟨c, h⟩ := gGd h
      refine g_iald X hNM_5 (shM_5 _) rfl (gin_in c) dX6_image_82 ?_
      obtain ⟨c, h⟩ := gGd h
      refine g_iast X hNM_9 (shM_9) rfl (gin_in c) dX6_image_83 ?_
      refine g_iinc X (x1 + 1) [(1, .int (x1 + 1)), (0, .ref (r 0))] dX6_image_84 1 rfl rfl (by decide) rfl ?_
      refine g_goto X 49 dX6_image_87 (by decide) ?_
      refine g_sub X [1, 0] (ls' := [(0, .ref (r 0)), (1, .int (x1 + 1))]) rfl ?_
      exact ih _ _  h

set_option maxHeartbeats 4000000 in
set_option maxRecDepth 100000 in
theorem bX6_image_23 {l : Launch} {D : va_G} {cA : Nat → ClassId} {r : Nat → Nat} {G : gG} {xr : Int32} {v' : gV} (X : XM l D cA r RX6 cX6_image 2 (some .int) rmX6_image (some (.int xr)) v' G) : ∀ (n : Nat) (v : gV) (x1 : Int32), fX6_image_23 n v x1 = some (xr, v') → G v [(0, .ref (r 0)), (1, .int x1)] 23 [] := by
  intro n
  induction n with
  | zero => intro v x1 h; rw [fX6_image_23] at h; cases h
  | succ n ih =>
    intro v x1 h
    rw [fX6_image_23] at h
    refine g_iload_n X dX6_image_23 rfl 1 rfl ?_
    refine g_bipush X 7 dX6_image_24 (by decide) ?_
    refine g_icmp_ge X 47 dX6_image_26 (by decide) (fun c => ?_) (fun c => ?_)
    · replace h := gTr c h
      refine g_iconst X 0 dX6_image_47 (by decide) ?_
      refine g_istore_n X (ls' := [(1, .int 0), (0, .ref (r 0))]) dX6_image_48 rfl (by decide) rfl ?_
      refine g_sub X [1, 0] (ls' := [(0, .ref (r 0)), (1, .int 0)]) rfl ?_
      exact bX6_image_49 X  _ _ _  h
    · replace h := gF c h
      refine g_aload_n X dX6_image_29 rfl 0 rfl ?_
      refine g_get X fl6_38 hNM_0 (shM_0 _) rfl dX6_image_30 ?_
      refine g_iload_n X dX6_image_33 rfl 1 rfl ?_
      refine g_aload_n X dX6_image_34 rfl 0 rfl ?_
      refine g_get X fl6_7 hNM_0 (shM_0 _) rfl dX6_image_35 ?_
      refine g_iload_n X dX6_image_38 rfl 1 rfl ?_
      obtain ⟨c, h⟩ := gGd h
      refine g_iald X hNM_1 (shM_1 _) rfl (gin_in c) dX6_image_39 ?_
      obtain ⟨c, h⟩ := gGd h
      refine g_iast X hNM_9 (shM_9) rfl (gin_in c) dX6_image_40 ?_
      refine g_iinc X (x1 + 1) [(1, .int (x1 + 1)), (0, .ref (r 0))] dX6_image_41 1 rfl rfl (by decide) rfl ?_
      refine g_goto X 23 dX6_image_44 (by decide) ?_
      refine g_sub X [1, 0] (ls' := [(0, .ref (r 0)), (1, .int (x1 + 1))]) rfl ?_
      exact ih _ _  h

set_option maxHeartbeats 4000000 in
set_option maxRecDepth 100000 in
theorem bX6_image_0 {l : Launch} {D : va_G} {cA : Nat → ClassId} {r : Nat → Nat} {G : gG} {xr : Int32} {v' : gV} (X : XM l D cA r RX6 cX6_image 2 (some .int) rmX6_image (some (.int xr)) v' G) (v : gV)  (h : fX6_image v  = some (xr, v')) : G v [(0, .ref (r 0))] 0 [] := by
  unfold fX6_image at h
  refine g_aload_n X dX6_image_0 rfl 0 rfl ?_
  refine g_iconst X 1 dX6_image_1 (by decide) ?_
  refine g_putZ X (fsM6 r) fp6_259 hNM_0 (shM_0) (fun _ => rfl) (Nat.le_of_ble_eq_true rfl) (Or.inr rfl) dX6_image_2 ?_
  refine g_aload_n X dX6_image_5 rfl 0 rfl ?_
  refine g_aload_n X dX6_image_6 rfl 0 rfl ?_
  refine g_get X fl6_75 hNM_0 (shM_0 _) rfl dX6_image_7 ?_
  refine g_put X (fsM6 r) fp6_262 hNM_0 (shM_0) (fun _ => rfl) (Nat.le_of_ble_eq_true rfl) dX6_image_10 ?_
  refine g_aload_n X dX6_image_13 rfl 0 rfl ?_
  refine g_aload_n X dX6_image_14 rfl 0 rfl ?_
  refine g_get X fl6_85 hNM_0 (shM_0 _) rfl dX6_image_15 ?_
  refine g_put X (fsM6 r) fp6_265 hNM_0 (shM_0) (fun _ => rfl) (Nat.le_of_ble_eq_true rfl) dX6_image_18 ?_
  refine g_iconst X 0 dX6_image_21 (by decide) ?_
  refine g_istore_n X (ls' := [(1, .int 0), (0, .ref (r 0))]) dX6_image_22 rfl (by decide) rfl ?_
  refine g_sub X [1, 0] (ls' := [(0, .ref (r 0)), (1, .int 0)]) rfl ?_
  exact bX6_image_23 X  _ _ _  h

theorem mX6_image {l : Launch} {D : va_G} {cA : Nat → ClassId} {r : Nat → Nat} {v : gV}  {xr : Int32} {v' : gV} (h : fX6_image v  = some (xr, v')) : Ct l D (tysM cA) (shM cA r) 19 r (ZM r) yX6_image cX6_image 2 (some .int) rmX6_image [.ref (r 0)] v (some (.int xr)) v' := ct_of plX6 ZM_ok (Nat.le_of_ble_eq_true rfl) rfl (fun _ X => bX6_image_0 X v  h)

def rmX6_back : Room := { frames := 0, cells := 0, slots := 0, locals := 0 }

set_option maxHeartbeats 4000000 in
set_option maxRecDepth 100000 in
theorem bX6_back_54 {l : Launch} {D : va_G} {cA : Nat → ClassId} {r : Nat → Nat} {G : gG} {xr : Int32} {v' : gV} (X : XM l D cA r RX6 cX6_back 2 (some .int) rmX6_back (some (.int xr)) v' G) : ∀ (n : Nat) (v : gV) (x1 : Int32), fX6_back_54 n v x1 = some (xr, v') → G v [(0, .ref (r 0)), (1, .int x1)] 54 [] := by
  intro n
  induction n with
  | zero => intro v x1 h; rw [fX6_back_54] at h; cases h
  | succ n ih =>
    intro v x1 h
    rw [fX6_back_54] at h
    refine g_iload_n X dX6_back_54 rfl 1 rfl ?_
    refine g_iconst X 5 dX6_back_55 (by decide) ?_
    refine g_icmp_ge X 95 dX6_back_56 (by decide) (fun c => ?_) (fun c => ?_)
    · replace h := gTr c h
      refine g_aload_n X dX6_back_95 rfl 0 rfl ?_
      refine g_get X fl6_75 hNM_0 (shM_0 _) rfl dX6_back_96 ?_
      exact g_iretR X h dX6_back_99
    · replace h := gF c h
      refine g_aload_n X dX6_back_59 rfl 0 rfl ?_
      refine g_get X fl6_13 hNM_0 (shM_0 _) rfl dX6_back_60 ?_
      refine g_iload_n X dX6_back_63 rfl 1 rfl ?_
      refine g_aload_n X dX6_back_64 rfl 0 rfl ?_
      refine g_get X fl6_38 hNM_0 (shM_0 _) rfl dX6_back_65 ?_
      refine g_bipush X 7 dX6_back_68 (by decide) ?_
      refine g_iload_n X dX6_back_70 rfl 1 rfl ?_
      refine g_iadd X dX6_back_71 ?_
      obtain ⟨c, h⟩ := gGd h
      refine g_iald X hNM_9 (shM_9 _) rfl (gin_in c) dX6_back_72 ?_
      obtain ⟨c, h⟩ := gGd h
      refine g_iast X hNM_2 (shM_2) rfl (gin_in c) dX6_back_73 ?_
      refine g_aload_n X dX6_back_74 rfl 0 rfl ?_
      refine g_get X fl6_22 hNM_0 (shM_0 _) rfl dX6_back_75 ?_
      refine g_iload_n X dX6_back_78 rfl 1 rfl ?_
      refine g_aload_n X dX6_back_79 rfl 0 rfl ?_
      refine g_get X fl6_38 hNM_0 (shM_0 _) rfl dX6_back_80 ?_
      refine g_bipush X 12 dX6_back_83 (by decide) ?_
      refine g_iload_n X dX6_back_85 rfl 1 rfl ?_
      refine g_iadd X dX6_back_86 ?_
      obtain ⟨c, h⟩ := gGd h
      refine g_iald X hNM_9 (shM_9 _) rfl (gin_in c) dX6_back_87 ?_
      obtain ⟨c, h⟩ := gGd h
      refine g_iast X hNM_5 (shM_5) rfl (gin_in c) dX6_back_88 ?_
      refine g_iinc X (x1 + 1) [(1, .int (x1 + 1)), (0, .ref (r 0))] dX6_back_89 1 rfl rfl (by decide) rfl ?_
      refine g_goto X 54 dX6_back_92 (by decide) ?_
      refine g_sub X [1, 0] (ls' := [(0, .ref (r 0)), (1, .int (x1 + 1))]) rfl ?_
      exact ih _ _  h

set_option maxHeartbeats 4000000 in
set_option maxRecDepth 100000 in
theorem bX6_back_28 {l : Launch} {D : va_G} {cA : Nat → ClassId} {r : Nat → Nat} {G : gG} {xr : Int32} {v' : gV} (X : XM l D cA r RX6 cX6_back 2 (some .int) rmX6_back (some (.int xr)) v' G) : ∀ (n : Nat) (v : gV) (x1 : Int32), fX6_back_28 n v x1 = some (xr, v') → G v [(0, .ref (r 0)), (1, .int x1)] 28 [] := by
  intro n
  induction n with
  | zero => intro v x1 h; rw [fX6_back_28] at h; cases h
  | succ n ih =>
    intro v x1 h
    rw [fX6_back_28] at h
    refine g_iload_n X dX6_back_28 rfl 1 rfl ?_
    refine g_bipush X 7 dX6_back_29 (by decide) ?_
    refine g_icmp_ge X 52 dX6_back_31 (by decide) (fun c => ?_) (fun c => ?_)
    · replace h := gTr c h
      refine g_iconst X 0 dX6_back_52 (by decide) ?_
      refine g_istore_n X (ls' := [(1, .int 0), (0, .ref (r 0))]) dX6_back_53 rfl (by decide) rfl ?_
      refine g_sub X [1, 0] (ls' := [(0, .ref (r 0)), (1, .int 0)]) rfl ?_
      exact bX6_back_54 X  _ _ _  h
    · replace h := gF c h
      refine g_aload_n X dX6_back_34 rfl 0 rfl ?_
      refine g_get X fl6_7 hNM_0 (shM_0 _) rfl dX6_back_35 ?_
      refine g_iload_n X dX6_back_38 rfl 1 rfl ?_
      refine g_aload_n X dX6_back_39 rfl 0 rfl ?_
      refine g_get X fl6_38 hNM_0 (shM_0 _) rfl dX6_back_40 ?_
      refine g_iload_n X dX6_back_43 rfl 1 rfl ?_
      obtain ⟨c, h⟩ := gGd h
      refine g_iald X hNM_9 (shM_9 _) rfl (gin_in c) dX6_back_44 ?_
      obtain ⟨c, h⟩ := gGd h
      refine g_iast X hNM_1 (shM_1) rfl (gin_in c) dX6_back_45 ?_
      refine g_iinc X (x1 + 1) [(1, .int (x1 + 1)), (0, .ref (r 0))] dX6_back_46 1 rfl rfl (by decide) rfl ?_
      refine g_goto X 28 dX6_back_49 (by decide) ?_
      refine g_sub X [1, 0] (ls' := [(0, .ref (r 0)), (1, .int (x1 + 1))]) rfl ?_
      exact ih _ _  h

set_option maxHeartbeats 4000000 in
set_option maxRecDepth 100000 in
theorem bX6_back_0 {l : Launch} {D : va_G} {cA : Nat → ClassId} {r : Nat → Nat} {G : gG} {xr : Int32} {v' : gV} (X : XM l D cA r RX6 cX6_back 2 (some .int) rmX6_back (some (.int xr)) v' G) (v : gV)  (h : fX6_back v  = some (xr, v')) : G v [(0, .ref (r 0))] 0 [] := by
  unfold fX6_back at h
  refine g_aload_n X dX6_back_0 rfl 0 rfl ?_
  refine g_get X fl6_259 hNM_0 (shM_0 _) rfl dX6_back_1 ?_
  refine g_if_ne X 10 dX6_back_4 (by decide) (fun c => ?_) (fun c => ?_)
  · replace h := gF c h
    refine g_aload_n X dX6_back_10 rfl 0 rfl ?_
    refine g_aload_n X dX6_back_11 rfl 0 rfl ?_
    refine g_get X fl6_262 hNM_0 (shM_0 _) rfl dX6_back_12 ?_
    refine g_put X (fsM6 r) fp6_75 hNM_0 (shM_0) (fun _ => rfl) (Nat.le_of_ble_eq_true rfl) dX6_back_15 ?_
    refine g_aload_n X dX6_back_18 rfl 0 rfl ?_
    refine g_aload_n X dX6_back_19 rfl 0 rfl ?_
    refine g_get X fl6_265 hNM_0 (shM_0 _) rfl dX6_back_20 ?_
    refine g_put X (fsM6 r) fp6_85 hNM_0 (shM_0) (fun _ => rfl) (Nat.le_of_ble_eq_true rfl) dX6_back_23 ?_
    refine g_iconst X 0 dX6_back_26 (by decide) ?_
    refine g_istore_n X (ls' := [(1, .int 0), (0, .ref (r 0))]) dX6_back_27 rfl (by decide) rfl ?_
    refine g_sub X [1, 0] (ls' := [(0, .ref (r 0)), (1, .int 0)]) rfl ?_
    exact bX6_back_28 X  _ _ _  h
  · replace h := gTr c h
    refine g_bipush X (-3) dX6_back_7 (by decide) ?_
    exact g_iretR X h dX6_back_9

theorem mX6_back {l : Launch} {D : va_G} {cA : Nat → ClassId} {r : Nat → Nat} {v : gV}  {xr : Int32} {v' : gV} (h : fX6_back v  = some (xr, v')) : Ct l D (tysM cA) (shM cA r) 19 r (ZM r) yX6_back cX6_back 2 (some .int) rmX6_back [.ref (r 0)] v (some (.int xr)) v' := ct_of plX6 ZM_ok (Nat.le_of_ble_eq_true rfl) rfl (fun _ X => bX6_back_0 X v  h)

def rmX6_sheet : Room := { frames := 1, cells := 0, slots := 0, locals := 22 }

set_option maxHeartbeats 4000000 in
set_option maxRecDepth 100000 in
theorem bX6_sheet_70 {l : Launch} {D : va_G} {cA : Nat → ClassId} {r : Nat → Nat} {G : gG} {xr : Int32} {v' : gV} (X : XM l D cA r RX6 cX6_sheet 5 (some .int) rmX6_sheet (some (.int xr)) v' G) : ∀ (n : Nat) (v : gV) (x1 : Int32) (x4 : Int32), fX6_sheet_70 n v x1 x4 = some (xr, v') → G v [(0, .ref (r 0)), (1, .int x1), (4, .int x4)] 70 [] := by
  intro n
  induction n with
  | zero => intro v x1 x4 h; rw [fX6_sheet_70] at h; cases h
  | succ n ih =>
    intro v x1 x4 h
    rw [fX6_sheet_70] at h
    refine g_iload X dX6_sheet_70 2 rfl ?_
    refine g_bipush X 40 dX6_sheet_72 (by decide) ?_
    refine g_icmp_ge X 96 dX6_sheet_74 (by decide) (fun c => ?_) (fun c => ?_)
    · replace h := gTr c h
      refine g_iconst X 1 dX6_sheet_96 (by decide) ?_
      exact g_iretR X h dX6_sheet_97
    · replace h := gF c h
      refine g_aload_n X dX6_sheet_77 rfl 0 rfl ?_
      refine g_get X fl6_47 hNM_0 (shM_0 _) rfl dX6_sheet_78 ?_
      refine g_bipush X 40 dX6_sheet_81 (by decide) ?_
      refine g_iload_n X dX6_sheet_83 rfl 1 rfl ?_
      refine g_imul X dX6_sheet_84 ?_
      refine g_iload X dX6_sheet_85 2 rfl ?_
      refine g_iadd X dX6_sheet_87 ?_
      refine g_iconst X 0 dX6_sheet_88 (by decide) ?_
      obtain ⟨c, h⟩ := gGd h
      refine g_iast X hNM_12 (shM_12) rfl (gin_in c) dX6_sheet_89 ?_
      refine g_iinc X (x4 + 1) [(4, .int (x4 + 1)), (0, .ref (r 0)), (1, .int x1)] dX6_sheet_90 2 rfl rfl (by decide) rfl ?_
      refine g_goto X 70 dX6_sheet_93 (by decide) ?_
      refine g_sub X [1, 2, 0] (ls' := [(0, .ref (r 0)), (1, .int x1), (4, .int (x4 + 1))]) rfl ?_
      exact ih _ _ _  h

set_option maxHeartbeats 4000000 in
set_option maxRecDepth 100000 in
theorem bX6_sheet_66 {l : Launch} {D : va_G} {cA : Nat → ClassId} {r : Nat → Nat} {G : gG} {xr : Int32} {v' : gV} (X : XM l D cA r RX6 cX6_sheet 5 (some .int) rmX6_sheet (some (.int xr)) v' G) (v : gV) (x1 : Int32) (s1 : Int32) (s2 : Int32) (h : fX6_sheet_66 v x1 s1 s2 = some (xr, v')) : G v [(0, .ref (r 0)), (1, .int x1)] 66 [.int s2, .int s1, .ref (r 11)] := by
  unfold fX6_sheet_66 at h
  obtain ⟨c, h⟩ := gGd h
  refine g_iast X hNM_11 (shM_11) rfl (gin_in c) dX6_sheet_66 ?_
  refine g_iconst X 0 dX6_sheet_67 (by decide) ?_
  refine g_istore X (ls' := [(4, .int 0), (0, .ref (r 0)), (1, .int x1)]) dX6_sheet_68 (by decide) rfl ?_
  refine g_sub X [1, 2, 0] (ls' := [(0, .ref (r 0)), (1, .int x1), (4, .int 0)]) rfl ?_
  exact bX6_sheet_70 X  _ _ _ _  h

set_option maxHeartbeats 4000000 in
set_option maxRecDepth 100000 in
theorem bX6_sheet_44 {l : Launch} {D : va_G} {cA : Nat → ClassId} {r : Nat → Nat} {G : gG} {xr : Int32} {v' : gV} (X : XM l D cA r RX6 cX6_sheet 5 (some .int) rmX6_sheet (some (.int xr)) v' G) (v : gV) (x1 : Int32) (x2 : Int32) (x3 : Int32) (h : fX6_sheet_44 v x1 x2 x3 = some (xr, v')) : G v [(0, .ref (r 0)), (1, .int x1), (2, .int x2), (3, .int x3)] 44 [] := by
  unfold fX6_sheet_44 at h
  refine g_aload_n X dX6_sheet_44 rfl 0 rfl ?_
  refine g_get X fl6_41 hNM_0 (shM_0 _) rfl dX6_sheet_45 ?_
  refine g_iload_n X dX6_sheet_48 rfl 1 rfl ?_
  refine g_iload_n X dX6_sheet_49 rfl 2 rfl ?_
  obtain ⟨c, h⟩ := gGd h
  refine g_iast X hNM_10 (shM_10) rfl (gin_in c) dX6_sheet_50 ?_
  refine g_aload_n X dX6_sheet_51 rfl 0 rfl ?_
  refine g_get X fl6_44 hNM_0 (shM_0 _) rfl dX6_sheet_52 ?_
  refine g_iload_n X dX6_sheet_55 rfl 1 rfl ?_
  refine g_iload_n X dX6_sheet_56 rfl 2 rfl ?_
  refine g_iconst X (-1) dX6_sheet_57 (by decide) ?_
  refine g_icmp_ne X 65 dX6_sheet_58 (by decide) (fun c => ?_) (fun c => ?_)
  · replace h := gF c h
    refine g_iload_n X dX6_sheet_65 rfl 3 rfl ?_
    refine g_sub X [0, 1] (ls' := [(0, .ref (r 0)), (1, .int x1)]) rfl ?_
    exact bX6_sheet_66 X  _ _ _ _  h
  · replace h := gTr c h
    refine g_iconst X 0 dX6_sheet_61 (by decide) ?_
    refine g_goto X 66 dX6_sheet_62 (by decide) ?_
    refine g_sub X [0, 1] (ls' := [(0, .ref (r 0)), (1, .int x1)]) rfl ?_
    exact bX6_sheet_66 X  _ _ _ _  h

set_option maxHeartbeats 4000000 in
set_option maxRecDepth 100000 in
theorem bX6_sheet_32 {l : Launch} {D : va_G} {cA : Nat → ClassId} {r : Nat → Nat} {G : gG} {xr : Int32} {v' : gV} (X : XM l D cA r RX6 cX6_sheet 5 (some .int) rmX6_sheet (some (.int xr)) v' G) (v : gV) (x1 : Int32) (x2 : Int32) (x3 : Int32) (h : fX6_sheet_32 v x1 x2 x3 = some (xr, v')) : G v [(0, .ref (r 0)), (1, .int x1), (2, .int x2), (3, .int x3)] 32 [] := by
  unfold fX6_sheet_32 at h
  refine g_iload_n X dX6_sheet_32 rfl 2 rfl ?_
  refine g_iconst X (-1) dX6_sheet_33 (by decide) ?_
  refine g_icmp_eq X 44 dX6_sheet_34 (by decide) (fun c => ?_) (fun c => ?_)
  · replace h := gTr c h
    exact bX6_sheet_44 X  _ _ _ _  h
  · replace h := gF c h
    refine g_iload_n X dX6_sheet_37 rfl 3 rfl ?_
    refine g_if_ge X 44 dX6_sheet_38 (by decide) (fun c => ?_) (fun c => ?_)
    · replace h := gTr c h
      exact bX6_sheet_44 X  _ _ _ _  h
    · replace h := gF c h
      refine g_bipush X (-14) dX6_sheet_41 (by decide) ?_
      exact g_iretR X h dX6_sheet_43

set_option maxHeartbeats 4000000 in
set_option maxRecDepth 100000 in
theorem bX6_sheet_0 {l : Launch} {D : va_G} {cA : Nat → ClassId} {r : Nat → Nat} {G : gG} {xr : Int32} {v' : gV} (X : XM l D cA r RX6 cX6_sheet 5 (some .int) rmX6_sheet (some (.int xr)) v' G) (v : gV) (x1 : Int32) (x2 : Int32) (x3 : Int32) (h : fX6_sheet v x1 x2 x3 = some (xr, v')) : G v [(0, .ref (r 0)), (1, .int x1), (2, .int x2), (3, .int x3)] 0 [] := by
  unfold fX6_sheet at h
  refine g_iload_n X dX6_sheet_0 rfl 1 rfl ?_
  refine g_iconst X 0 dX6_sheet_1 (by decide) ?_
  refine g_iconst X 3 dX6_sheet_2 (by decide) ?_
  obtain ⟨y1, v2, hc3, h⟩ := gB_inv h
  refine g_callS X (st := []) (st' := [.int y1]) kcX6_in ktX6_in kl6_78 (⟨rfl, rfl, by decide, by decide⟩) (mX6_in hc3) rfl rfl (Nat.le_of_ble_eq_true rfl) rfl dX6_sheet_3 ?_
  refine g_if_eq X 29 dX6_sheet_6 (by decide) (fun c => ?_) (fun c => ?_)
  · replace h := gTr c h
    refine g_bipush X (-2) dX6_sheet_29 (by decide) ?_
    exact g_iretR X h dX6_sheet_31
  · replace h := gF c h
    refine g_iload_n X dX6_sheet_9 rfl 2 rfl ?_
    refine g_iconst X (-1) dX6_sheet_10 (by decide) ?_
    refine g_iconst X 2 dX6_sheet_11 (by decide) ?_
    obtain ⟨y4, v5, hc6, h⟩ := gB_inv h
    refine g_callS X (st := []) (st' := [.int y4]) kcX6_in ktX6_in kl6_78 (⟨rfl, rfl, by decide, by decide⟩) (mX6_in hc6) rfl rfl (Nat.le_of_ble_eq_true rfl) rfl dX6_sheet_12 ?_
    refine g_if_eq X 29 dX6_sheet_15 (by decide) (fun c => ?_) (fun c => ?_)
    · replace h := gTr c h
      refine g_bipush X (-2) dX6_sheet_29 (by decide) ?_
      exact g_iretR X h dX6_sheet_31
    · replace h := gF c h
      refine g_iload_n X dX6_sheet_18 rfl 2 rfl ?_
      refine g_iconst X (-1) dX6_sheet_19 (by decide) ?_
      refine g_icmp_eq X 32 dX6_sheet_20 (by decide) (fun c => ?_) (fun c => ?_)
      · replace h := gTr c h
        exact bX6_sheet_32 X  _ _ _ _  h
      · replace h := gF c h
        refine g_iload_n X dX6_sheet_23 rfl 3 rfl ?_
        refine g_bipush X 40 dX6_sheet_24 (by decide) ?_
        refine g_icmp_le X 32 dX6_sheet_26 (by decide) (fun c => ?_) (fun c => ?_)
        · replace h := gTr c h
          exact bX6_sheet_32 X  _ _ _ _  h
        · replace h := gF c h
          refine g_bipush X (-2) dX6_sheet_29 (by decide) ?_
          exact g_iretR X h dX6_sheet_31

theorem mX6_sheet {l : Launch} {D : va_G} {cA : Nat → ClassId} {r : Nat → Nat} {v : gV} {x1 : Int32} {x2 : Int32} {x3 : Int32} {xr : Int32} {v' : gV} (h : fX6_sheet v x1 x2 x3 = some (xr, v')) : Ct l D (tysM cA) (shM cA r) 19 r (ZM r) yX6_sheet cX6_sheet 5 (some .int) rmX6_sheet [.ref (r 0), .int x1, .int x2, .int x3] v (some (.int xr)) v' := ct_of plX6 ZM_ok (Nat.le_of_ble_eq_true rfl) rfl (fun _ X => bX6_sheet_0 X v x1 x2 x3 h)

def rmX6_cell : Room := { frames := 1, cells := 0, slots := 0, locals := 22 }

set_option maxHeartbeats 4000000 in
set_option maxRecDepth 100000 in
theorem bX6_cell_0 {l : Launch} {D : va_G} {cA : Nat → ClassId} {r : Nat → Nat} {G : gG} {xr : Int32} {v' : gV} (X : XM l D cA r RX6 cX6_cell 4 (some .int) rmX6_cell (some (.int xr)) v' G) (v : gV) (x1 : Int32) (x2 : Int32) (x3 : Int32) (h : fX6_cell v x1 x2 x3 = some (xr, v')) : G v [(0, .ref (r 0)), (1, .int x1), (2, .int x2), (3, .int x3)] 0 [] := by
  unfold fX6_cell at h
  refine g_iload_n X dX6_cell_0 rfl 1 rfl ?_
  refine g_iconst X 0 dX6_cell_1 (by decide) ?_
  refine g_iconst X 3 dX6_cell_2 (by decide) ?_
  obtain ⟨y1, v2, hc3, h⟩ := gB_inv h
  refine g_callS X (st := []) (st' := [.int y1]) kcX6_in ktX6_in kl6_78 (⟨rfl, rfl, by decide, by decide⟩) (mX6_in hc3) rfl rfl (Nat.le_of_ble_eq_true rfl) rfl dX6_cell_3 ?_
  refine g_if_ne X 12 dX6_cell_6 (by decide) (fun c => ?_) (fun c => ?_)
  · replace h := gF c h
    refine g_aload_n X dX6_cell_12 rfl 0 rfl ?_
    refine g_get X fl6_41 hNM_0 (shM_0 _) rfl dX6_cell_13 ?_
    refine g_iload_n X dX6_cell_16 rfl 1 rfl ?_
    obtain ⟨c, h⟩ := gGd h
    refine g_iald X hNM_10 (shM_10 _) rfl (gin_in c) dX6_cell_17 ?_
    refine g_iconst X (-1) dX6_cell_18 (by decide) ?_
    refine g_icmp_ne X 25 dX6_cell_19 (by decide) (fun c => ?_) (fun c => ?_)
    · replace h := gF c h
      refine g_iload_n X dX6_cell_25 rfl 2 rfl ?_
      refine g_iconst X 0 dX6_cell_26 (by decide) ?_
      refine g_aload_n X dX6_cell_27 rfl 0 rfl ?_
      refine g_get X fl6_44 hNM_0 (shM_0 _) rfl dX6_cell_28 ?_
      refine g_iload_n X dX6_cell_31 rfl 1 rfl ?_
      obtain ⟨c, h⟩ := gGd h
      refine g_iald X hNM_11 (shM_11 _) rfl (gin_in c) dX6_cell_32 ?_
      refine g_iconst X 1 dX6_cell_33 (by decide) ?_
      refine g_isub X dX6_cell_34 ?_
      obtain ⟨y4, v5, hc6, h⟩ := gB_inv h
      refine g_callS X (st := []) (st' := [.int y4]) kcX6_in ktX6_in kl6_78 (⟨rfl, rfl, by decide, by decide⟩) (mX6_in hc6) rfl rfl (Nat.le_of_ble_eq_true rfl) rfl dX6_cell_35 ?_
      refine g_if_ne X 44 dX6_cell_38 (by decide) (fun c => ?_) (fun c => ?_)
      · replace h := gF c h
        refine g_aload_n X dX6_cell_44 rfl 0 rfl ?_
        refine g_get X fl6_47 hNM_0 (shM_0 _) rfl dX6_cell_45 ?_
        refine g_bipush X 40 dX6_cell_48 (by decide) ?_
        refine g_iload_n X dX6_cell_50 rfl 1 rfl ?_
        refine g_imul X dX6_cell_51 ?_
        refine g_iload_n X dX6_cell_52 rfl 2 rfl ?_
        refine g_iadd X dX6_cell_53 ?_
        refine g_aload_n X dX6_cell_54 rfl 0 rfl ?_
        refine g_get X fl6_41 hNM_0 (shM_0 _) rfl dX6_cell_55 ?_
        refine g_iload_n X dX6_cell_58 rfl 1 rfl ?_
        obtain ⟨c, h⟩ := gGd h
        refine g_iald X hNM_10 (shM_10 _) rfl (gin_in c) dX6_cell_59 ?_
        refine g_if_ne X 68 dX6_cell_60 (by decide) (fun c => ?_) (fun c => ?_)
        · replace h := gF c h
          refine g_aload_n X dX6_cell_68 rfl 0 rfl ?_
          refine g_get X fl6_41 hNM_0 (shM_0 _) rfl dX6_cell_69 ?_
          refine g_iload_n X dX6_cell_72 rfl 1 rfl ?_
          obtain ⟨c, h⟩ := gGd h
          refine g_iald X hNM_10 (shM_10 _) rfl (gin_in c) dX6_cell_73 ?_
          refine g_iconst X 1 dX6_cell_74 (by decide) ?_
          refine g_icmp_ne X 83 dX6_cell_75 (by decide) (fun c => ?_) (fun c => ?_)
          · replace h := gF c h
            refine g_iload_n X dX6_cell_83 rfl 3 rfl ?_
            obtain ⟨c, h⟩ := gGd h
            refine g_iast X hNM_12 (shM_12) rfl (gin_in c) dX6_cell_84 ?_
            refine g_iconst X 1 dX6_cell_85 (by decide) ?_
            exact g_iretR X h dX6_cell_86
          · replace h := gTr c h
            refine g_iload_n X dX6_cell_78 rfl 3 rfl ?_
            refine g_i2s X dX6_cell_79 ?_
            refine g_goto X 84 dX6_cell_80 (by decide) ?_
            obtain ⟨c, h⟩ := gGd h
            refine g_iast X hNM_12 (shM_12) rfl (gin_in c) dX6_cell_84 ?_
            refine g_iconst X 1 dX6_cell_85 (by decide) ?_
            exact g_iretR X h dX6_cell_86
        · replace h := gTr c h
          refine g_iload_n X dX6_cell_63 rfl 3 rfl ?_
          refine g_i2b X dX6_cell_64 ?_
          refine g_goto X 84 dX6_cell_65 (by decide) ?_
          obtain ⟨c, h⟩ := gGd h
          refine g_iast X hNM_12 (shM_12) rfl (gin_in c) dX6_cell_84 ?_
          refine g_iconst X 1 dX6_cell_85 (by decide) ?_
          exact g_iretR X h dX6_cell_86
      · replace h := gTr c h
        refine g_bipush X (-12) dX6_cell_41 (by decide) ?_
        exact g_iretR X h dX6_cell_43
    · replace h := gTr c h
      refine g_bipush X (-11) dX6_cell_22 (by decide) ?_
      exact g_iretR X h dX6_cell_24
  · replace h := gTr c h
    refine g_bipush X (-2) dX6_cell_9 (by decide) ?_
    exact g_iretR X h dX6_cell_11

theorem mX6_cell {l : Launch} {D : va_G} {cA : Nat → ClassId} {r : Nat → Nat} {v : gV} {x1 : Int32} {x2 : Int32} {x3 : Int32} {xr : Int32} {v' : gV} (h : fX6_cell v x1 x2 x3 = some (xr, v')) : Ct l D (tysM cA) (shM cA r) 19 r (ZM r) yX6_cell cX6_cell 4 (some .int) rmX6_cell [.ref (r 0), .int x1, .int x2, .int x3] v (some (.int xr)) v' := ct_of plX6 ZM_ok (Nat.le_of_ble_eq_true rfl) rfl (fun _ X => bX6_cell_0 X v x1 x2 x3 h)

def rmX6_copy : Room := { frames := 1, cells := 0, slots := 0, locals := 22 }

set_option maxHeartbeats 4000000 in
set_option maxRecDepth 100000 in
theorem bX6_copy_173 {l : Launch} {D : va_G} {cA : Nat → ClassId} {r : Nat → Nat} {G : gG} {xr : Int32} {v' : gV} {k147 : gV → Int32 → Int32 → Int32 → Int32 → Option (Int32 × gV)} (X : XM l D cA r RX6 cX6_copy 10 (some .int) rmX6_copy (some (.int xr)) v' G) (K147 : ∀ (v : gV) (x5 : Int32) (x6 : Int32) (x7 : Int32) (x8 : Int32), k147 v x5 x6 x7 x8 = some (xr, v') → G v [(0, .ref (r 0)), (5, .int x5), (6, .int x6), (7, .int x7), (8, .int x8)] 147 []) (v : gV) (x5 : Int32) (x6 : Int32) (x7 : Int32) (x8 : Int32) (s0 : Int32) (h : fX6_copy_173 k147 v x5 x6 x7 x8 s0 = some (xr, v')) : G v [(0, .ref (r 0)), (5, .int x5), (6, .int x6), (7, .int x7), (8, .int x8)] 173 [.int s0] := by
  unfold fX6_copy_173 at h
  refine g_istore X (ls' := [(9, .int s0), (0, .ref (r 0)), (5, .int x5), (6, .int x6), (7, .int x7), (8, .int x8)]) dX6_copy_173 (by decide) rfl ?_
  refine g_aload_n X dX6_copy_175 rfl 1 rfl ?_
  refine g_get X fl6_47 hNM_0 (shM_0 _) rfl dX6_copy_176 ?_
  refine g_iload X dX6_copy_179 4 rfl ?_
  refine g_iload X dX6_copy_181 0 rfl ?_
  refine g_iadd X dX6_copy_183 ?_
  refine g_aload_n X dX6_copy_184 rfl 1 rfl ?_
  refine g_get X fl6_47 hNM_0 (shM_0 _) rfl dX6_copy_185 ?_
  refine g_iload X dX6_copy_188 3 rfl ?_
  refine g_iload X dX6_copy_190 0 rfl ?_
  refine g_iadd X dX6_copy_192 ?_
  obtain ⟨c, h⟩ := gGd h
  refine g_iald X hNM_12 (shM_12 _) rfl (gin_in c) dX6_copy_193 ?_
  obtain ⟨c, h⟩ := gGd h
  refine g_iast X hNM_12 (shM_12) rfl (gin_in c) dX6_copy_194 ?_
  refine g_iinc X (x8 + 1) [(8, .int (x8 + 1)), (9, .int s0), (0, .ref (r 0)), (5, .int x5), (6, .int x6), (7, .int x7)] dX6_copy_195 5 rfl rfl (by decide) rfl ?_
  refine g_goto X 147 dX6_copy_198 (by decide) ?_
  refine g_sub X [2, 3, 4, 5, 0] (ls' := [(0, .ref (r 0)), (5, .int x5), (6, .int x6), (7, .int x7), (8, .int (x8 + 1))]) rfl ?_
  exact K147 _ _ _ _ _  h

set_option maxHeartbeats 4000000 in
set_option maxRecDepth 100000 in
theorem bX6_copy_147 {l : Launch} {D : va_G} {cA : Nat → ClassId} {r : Nat → Nat} {G : gG} {xr : Int32} {v' : gV} (X : XM l D cA r RX6 cX6_copy 10 (some .int) rmX6_copy (some (.int xr)) v' G) : ∀ (n : Nat) (v : gV) (x5 : Int32) (x6 : Int32) (x7 : Int32) (x8 : Int32), fX6_copy_147 n v x5 x6 x7 x8 = some (xr, v') → G v [(0, .ref (r 0)), (5, .int x5), (6, .int x6), (7, .int x7), (8, .int x8)] 147 [] := by
  intro n
  induction n with
  | zero => intro v x5 x6 x7 x8 h; rw [fX6_copy_147] at h; cases h
  | succ n ih =>
    intro v x5 x6 x7 x8 h
    rw [fX6_copy_147] at h
    refine g_iload X dX6_copy_147 4 rfl ?_
    refine g_iload X dX6_copy_149 1 rfl ?_
    refine g_icmp_ge X 201 dX6_copy_151 (by decide) (fun c => ?_) (fun c => ?_)
    · replace h := gTr c h
      refine g_iload X dX6_copy_201 1 rfl ?_
      exact g_iretR X h dX6_copy_203
    · replace h := gF c h
      refine g_iload X dX6_copy_154 2 rfl ?_
      refine g_iload X dX6_copy_156 3 rfl ?_
      refine g_icmp_ge X 171 dX6_copy_158 (by decide) (fun c => ?_) (fun c => ?_)
      · replace h := gTr c h
        refine g_iload X dX6_copy_171 4 rfl ?_
        exact bX6_copy_173 X ih _ _ _ _ _ _  h
      · replace h := gF c h
        refine g_iload X dX6_copy_161 1 rfl ?_
        refine g_iconst X 1 dX6_copy_163 (by decide) ?_
        refine g_isub X dX6_copy_164 ?_
        refine g_iload X dX6_copy_165 4 rfl ?_
        refine g_isub X dX6_copy_167 ?_
        refine g_goto X 173 dX6_copy_168 (by decide) ?_
        exact bX6_copy_173 X ih _ _ _ _ _ _  h

set_option maxHeartbeats 4000000 in
set_option maxRecDepth 100000 in
theorem bX6_copy_0 {l : Launch} {D : va_G} {cA : Nat → ClassId} {r : Nat → Nat} {G : gG} {xr : Int32} {v' : gV} (X : XM l D cA r RX6 cX6_copy 10 (some .int) rmX6_copy (some (.int xr)) v' G) (v : gV) (x1 : Int32) (x2 : Int32) (x3 : Int32) (x4 : Int32) (x5 : Int32) (h : fX6_copy v x1 x2 x3 x4 x5 = some (xr, v')) : G v [(0, .ref (r 0)), (1, .int x1), (2, .int x2), (3, .int x3), (4, .int x4), (5, .int x5)] 0 [] := by
  unfold fX6_copy at h
  refine g_iload_n X dX6_copy_0 rfl 1 rfl ?_
  refine g_iconst X 0 dX6_copy_1 (by decide) ?_
  refine g_iconst X 3 dX6_copy_2 (by decide) ?_
  obtain ⟨y1, v2, hc3, h⟩ := gB_inv h
  refine g_callS X (st := []) (st' := [.int y1]) kcX6_in ktX6_in kl6_78 (⟨rfl, rfl, by decide, by decide⟩) (mX6_in hc3) rfl rfl (Nat.le_of_ble_eq_true rfl) rfl dX6_copy_3 ?_
  refine g_if_eq X 18 dX6_copy_6 (by decide) (fun c => ?_) (fun c => ?_)
  · replace h := gTr c h
    refine g_bipush X (-2) dX6_copy_18 (by decide) ?_
    exact g_iretR X h dX6_copy_20
  · replace h := gF c h
    refine g_iload_n X dX6_copy_9 rfl 3 rfl ?_
    refine g_iconst X 0 dX6_copy_10 (by decide) ?_
    refine g_iconst X 3 dX6_copy_11 (by decide) ?_
    obtain ⟨y4, v5, hc6, h⟩ := gB_inv h
    refine g_callS X (st := []) (st' := [.int y4]) kcX6_in ktX6_in kl6_78 (⟨rfl, rfl, by decide, by decide⟩) (mX6_in hc6) rfl rfl (Nat.le_of_ble_eq_true rfl) rfl dX6_copy_12 ?_
    refine g_if_ne X 21 dX6_copy_15 (by decide) (fun c => ?_) (fun c => ?_)
    · replace h := gF c h
      refine g_aload_n X dX6_copy_21 rfl 0 rfl ?_
      refine g_get X fl6_41 hNM_0 (shM_0 _) rfl dX6_copy_22 ?_
      refine g_iload_n X dX6_copy_25 rfl 1 rfl ?_
      obtain ⟨c, h⟩ := gGd h
      refine g_iald X hNM_10 (shM_10 _) rfl (gin_in c) dX6_copy_26 ?_
      refine g_iconst X (-1) dX6_copy_27 (by decide) ?_
      refine g_icmp_eq X 41 dX6_copy_28 (by decide) (fun c => ?_) (fun c => ?_)
      · replace h := gTr c h
        refine g_bipush X (-11) dX6_copy_41 (by decide) ?_
        exact g_iretR X h dX6_copy_43
      · replace h := gF c h
        refine g_aload_n X dX6_copy_31 rfl 0 rfl ?_
        refine g_get X fl6_41 hNM_0 (shM_0 _) rfl dX6_copy_32 ?_
        refine g_iload_n X dX6_copy_35 rfl 3 rfl ?_
        obtain ⟨c, h⟩ := gGd h
        refine g_iald X hNM_10 (shM_10 _) rfl (gin_in c) dX6_copy_36 ?_
        refine g_iconst X (-1) dX6_copy_37 (by decide) ?_
        refine g_icmp_ne X 44 dX6_copy_38 (by decide) (fun c => ?_) (fun c => ?_)
        · replace h := gF c h
          refine g_aload_n X dX6_copy_44 rfl 0 rfl ?_
          refine g_get X fl6_41 hNM_0 (shM_0 _) rfl dX6_copy_45 ?_
          refine g_iload_n X dX6_copy_48 rfl 1 rfl ?_
          obtain ⟨c, h⟩ := gGd h
          refine g_iald X hNM_10 (shM_10 _) rfl (gin_in c) dX6_copy_49 ?_
          refine g_aload_n X dX6_copy_50 rfl 0 rfl ?_
          refine g_get X fl6_41 hNM_0 (shM_0 _) rfl dX6_copy_51 ?_
          refine g_iload_n X dX6_copy_54 rfl 3 rfl ?_
          obtain ⟨c, h⟩ := gGd h
          refine g_iald X hNM_10 (shM_10 _) rfl (gin_in c) dX6_copy_55 ?_
          refine g_icmp_eq X 62 dX6_copy_56 (by decide) (fun c => ?_) (fun c => ?_)
          · replace h := gTr c h
            refine g_iload X dX6_copy_62 5 rfl ?_
            refine g_if_lt X 124 dX6_copy_64 (by decide) (fun c => ?_) (fun c => ?_)
            · replace h := gTr c h
              refine g_bipush X (-12) dX6_copy_124 (by decide) ?_
              exact g_iretR X h dX6_copy_126
            · replace h := gF c h
              refine g_iload_n X dX6_copy_67 rfl 2 rfl ?_
              refine g_if_lt X 124 dX6_copy_68 (by decide) (fun c => ?_) (fun c => ?_)
              · replace h := gTr c h
                refine g_bipush X (-12) dX6_copy_124 (by decide) ?_
                exact g_iretR X h dX6_copy_126
              · replace h := gF c h
                refine g_iload X dX6_copy_71 4 rfl ?_
                refine g_if_lt X 124 dX6_copy_73 (by decide) (fun c => ?_) (fun c => ?_)
                · replace h := gTr c h
                  refine g_bipush X (-12) dX6_copy_124 (by decide) ?_
                  exact g_iretR X h dX6_copy_126
                · replace h := gF c h
                  refine g_iload_n X dX6_copy_76 rfl 2 rfl ?_
                  refine g_aload_n X dX6_copy_77 rfl 0 rfl ?_
                  refine g_get X fl6_44 hNM_0 (shM_0 _) rfl dX6_copy_78 ?_
                  refine g_iload_n X dX6_copy_81 rfl 1 rfl ?_
                  obtain ⟨c, h⟩ := gGd h
                  refine g_iald X hNM_11 (shM_11 _) rfl (gin_in c) dX6_copy_82 ?_
                  refine g_icmp_gt X 124 dX6_copy_83 (by decide) (fun c => ?_) (fun c => ?_)
                  · replace h := gTr c h
                    refine g_bipush X (-12) dX6_copy_124 (by decide) ?_
                    exact g_iretR X h dX6_copy_126
                  · replace h := gF c h
                    refine g_iload X dX6_copy_86 4 rfl ?_
                    refine g_aload_n X dX6_copy_88 rfl 0 rfl ?_
                    refine g_get X fl6_44 hNM_0 (shM_0 _) rfl dX6_copy_89 ?_
                    refine g_iload_n X dX6_copy_92 rfl 3 rfl ?_
                    obtain ⟨c, h⟩ := gGd h
                    refine g_iald X hNM_11 (shM_11 _) rfl (gin_in c) dX6_copy_93 ?_
                    refine g_icmp_gt X 124 dX6_copy_94 (by decide) (fun c => ?_) (fun c => ?_)
                    · replace h := gTr c h
                      refine g_bipush X (-12) dX6_copy_124 (by decide) ?_
                      exact g_iretR X h dX6_copy_126
                    · replace h := gF c h
                      refine g_iload X dX6_copy_97 5 rfl ?_
                      refine g_aload_n X dX6_copy_99 rfl 0 rfl ?_
                      refine g_get X fl6_44 hNM_0 (shM_0 _) rfl dX6_copy_100 ?_
                      refine g_iload_n X dX6_copy_103 rfl 1 rfl ?_
                      obtain ⟨c, h⟩ := gGd h
                      refine g_iald X hNM_11 (shM_11 _) rfl (gin_in c) dX6_copy_104 ?_
                      refine g_iload_n X dX6_copy_105 rfl 2 rfl ?_
                      refine g_isub X dX6_copy_106 ?_
                      refine g_icmp_gt X 124 dX6_copy_107 (by decide) (fun c => ?_) (fun c => ?_)
                      · replace h := gTr c h
                        refine g_bipush X (-12) dX6_copy_124 (by decide) ?_
                        exact g_iretR X h dX6_copy_126
                      · replace h := gF c h
                        refine g_iload X dX6_copy_110 5 rfl ?_
                        refine g_aload_n X dX6_copy_112 rfl 0 rfl ?_
                        refine g_get X fl6_44 hNM_0 (shM_0 _) rfl dX6_copy_113 ?_
                        refine g_iload_n X dX6_copy_116 rfl 3 rfl ?_
                        obtain ⟨c, h⟩ := gGd h
                        refine g_iald X hNM_11 (shM_11 _) rfl (gin_in c) dX6_copy_117 ?_
                        refine g_iload X dX6_copy_118 4 rfl ?_
                        refine g_isub X dX6_copy_120 ?_
                        refine g_icmp_le X 127 dX6_copy_121 (by decide) (fun c => ?_) (fun c => ?_)
                        · replace h := gTr c h
                          refine g_bipush X 40 dX6_copy_127 (by decide) ?_
                          refine g_iload_n X dX6_copy_129 rfl 1 rfl ?_
                          refine g_imul X dX6_copy_130 ?_
                          refine g_iload_n X dX6_copy_131 rfl 2 rfl ?_
                          refine g_iadd X dX6_copy_132 ?_
                          refine g_istore X (ls' := [(6, .int ((40 * x1) + x2)), (0, .ref (r 0)), (1, .int x1), (2, .int x2), (3, .int x3), (4, .int x4), (5, .int x5)]) dX6_copy_133 (by decide) rfl ?_
                          refine g_bipush X 40 dX6_copy_135 (by decide) ?_
                          refine g_iload_n X dX6_copy_137 rfl 4 rfl ?_
                          refine g_imul X dX6_copy_138 ?_
                          refine g_iload X dX6_copy_139 5 rfl ?_
                          refine g_iadd X dX6_copy_141 ?_
                          refine g_istore X (ls' := [(7, .int ((40 * x3) + x4)), (6, .int ((40 * x1) + x2)), (0, .ref (r 0)), (1, .int x1), (2, .int x2), (3, .int x3), (4, .int x4), (5, .int x5)]) dX6_copy_142 (by decide) rfl ?_
                          refine g_iconst X 0 dX6_copy_144 (by decide) ?_
                          refine g_istore X (ls' := [(8, .int 0), (7, .int ((40 * x3) + x4)), (6, .int ((40 * x1) + x2)), (0, .ref (r 0)), (1, .int x1), (2, .int x2), (3, .int x3), (4, .int x4), (5, .int x5)]) dX6_copy_145 (by decide) rfl ?_
                          refine g_sub X [3, 8, 2, 1, 0] (ls' := [(0, .ref (r 0)), (5, .int x5), (6, .int ((40 * x1) + x2)), (7, .int ((40 * x3) + x4)), (8, .int 0)]) rfl ?_
                          exact bX6_copy_147 X  _ _ _ _ _ _  h
                        · replace h := gF c h
                          refine g_bipush X (-12) dX6_copy_124 (by decide) ?_
                          exact g_iretR X h dX6_copy_126
          · replace h := gF c h
            refine g_bipush X (-13) dX6_copy_59 (by decide) ?_
            exact g_iretR X h dX6_copy_61
        · replace h := gTr c h
          refine g_bipush X (-11) dX6_copy_41 (by decide) ?_
          exact g_iretR X h dX6_copy_43
    · replace h := gTr c h
      refine g_bipush X (-2) dX6_copy_18 (by decide) ?_
      exact g_iretR X h dX6_copy_20

theorem mX6_copy {l : Launch} {D : va_G} {cA : Nat → ClassId} {r : Nat → Nat} {v : gV} {x1 : Int32} {x2 : Int32} {x3 : Int32} {x4 : Int32} {x5 : Int32} {xr : Int32} {v' : gV} (h : fX6_copy v x1 x2 x3 x4 x5 = some (xr, v')) : Ct l D (tysM cA) (shM cA r) 19 r (ZM r) yX6_copy cX6_copy 10 (some .int) rmX6_copy [.ref (r 0), .int x1, .int x2, .int x3, .int x4, .int x5] v (some (.int xr)) v' := ct_of plX6 ZM_ok (Nat.le_of_ble_eq_true rfl) rfl (fun _ X => bX6_copy_0 X v x1 x2 x3 x4 x5 h)

def rmX6_ratesBy : Room := { frames := 3, cells := 0, slots := 0, locals := 66 }

set_option maxHeartbeats 4000000 in
set_option maxRecDepth 100000 in
theorem bX6_ratesBy_152 {l : Launch} {D : va_G} {cA : Nat → ClassId} {r : Nat → Nat} {G : gG} {xr : Int32} {v' : gV} {k63 : gV → Int32 → Int32 → Int32 → Int32 → Int32 → Option (Int32 × gV)} (X : XM l D cA r RX6 cX6_ratesBy 9 (some .int) rmX6_ratesBy (some (.int xr)) v' G) (K63 : ∀ (v : gV) (x1 : Int32) (x3 : Int32) (x4 : Int32) (x5 : Int32) (x6 : Int32), k63 v x1 x3 x4 x5 x6 = some (xr, v') → G v [(0, .ref (r 0)), (1, .int x1), (3, .int x3), (4, .int x4), (5, .int x5), (6, .int x6)] 63 []) (v : gV) (x1 : Int32) (x3 : Int32) (x4 : Int32) (x6 : Int32) (s0 : Int32) (s1 : Int32) (h : fX6_ratesBy_152 k63 v x1 x3 x4 x6 s0 s1 = some (xr, v')) : G v [(0, .ref (r 0)), (1, .int x1), (3, .int x3), (4, .int x4), (6, .int x6)] 152 [.int s1, .int s0] := by
  unfold fX6_ratesBy_152 at h
  refine g_iadd X dX6_ratesBy_152 ?_
  refine g_istore X (ls' := [(5, .int (s0 + s1)), (0, .ref (r 0)), (1, .int x1), (3, .int x3), (4, .int x4), (6, .int x6)]) dX6_ratesBy_153 (by decide) rfl ?_
  refine g_iinc X (x6 + 1) [(6, .int (x6 + 1)), (5, .int (s0 + s1)), (0, .ref (r 0)), (1, .int x1), (3, .int x3), (4, .int x4)] dX6_ratesBy_155 5 rfl rfl (by decide) rfl ?_
  refine g_goto X 63 dX6_ratesBy_158 (by decide) ?_
  refine g_sub X [2, 3, 4, 5, 1, 0] (ls' := [(0, .ref (r 0)), (1, .int x1), (3, .int x3), (4, .int x4), (5, .int (s0 + s1)), (6, .int (x6 + 1))]) rfl ?_
  exact K63 _ _ _ _ _ _  h

set_option maxHeartbeats 4000000 in
set_option maxRecDepth 100000 in
theorem bX6_ratesBy_63 {l : Launch} {D : va_G} {cA : Nat → ClassId} {r : Nat → Nat} {G : gG} {xr : Int32} {v' : gV} (X : XM l D cA r RX6 cX6_ratesBy 9 (some .int) rmX6_ratesBy (some (.int xr)) v' G) : ∀ (n : Nat) (v : gV) (x1 : Int32) (x3 : Int32) (x4 : Int32) (x5 : Int32) (x6 : Int32), fX6_ratesBy_63 n v x1 x3 x4 x5 x6 = some (xr, v') → G v [(0, .ref (r 0)), (1, .int x1), (3, .int x3), (4, .int x4), (5, .int x5), (6, .int x6)] 63 [] := by
  intro n
  induction n with
  | zero => intro v x1 x3 x4 x5 x6 h; rw [fX6_ratesBy_63] at h; cases h
  | succ n ih =>
    intro v x1 x3 x4 x5 x6 h
    rw [fX6_ratesBy_63] at h
    refine g_iload X dX6_ratesBy_63 5 rfl ?_
    refine g_iload X dX6_ratesBy_65 3 rfl ?_
    refine g_icmp_ge X 161 dX6_ratesBy_67 (by decide) (fun c => ?_) (fun c => ?_)
    · replace h := gTr c h
      refine g_iload X dX6_ratesBy_161 4 rfl ?_
      exact g_iretR X h dX6_ratesBy_163
    · replace h := gF c h
      refine g_iload_n X dX6_ratesBy_70 rfl 2 rfl ?_
      refine g_iconst X 3 dX6_ratesBy_71 (by decide) ?_
      refine g_iload X dX6_ratesBy_72 5 rfl ?_
      refine g_imul X dX6_ratesBy_74 ?_
      refine g_iadd X dX6_ratesBy_75 ?_
      refine g_istore X (ls' := [(7, .int (x3 + (3 * x6))), (0, .ref (r 0)), (1, .int x1), (3, .int x3), (4, .int x4), (5, .int x5), (6, .int x6)]) dX6_ratesBy_76 (by decide) rfl ?_
      refine g_iload_n X dX6_ratesBy_78 rfl 3 rfl ?_
      refine g_if_lt X 101 dX6_ratesBy_79 (by decide) (fun c => ?_) (fun c => ?_)
      · replace h := gTr c h
        refine g_bipush X (-12) dX6_ratesBy_101 (by decide) ?_
        exact g_iretR X h dX6_ratesBy_103
      · replace h := gF c h
        refine g_iload X dX6_ratesBy_82 0 rfl ?_
        refine g_iload_n X dX6_ratesBy_84 rfl 3 rfl ?_
        refine g_icmp_lt X 101 dX6_ratesBy_85 (by decide) (fun c => ?_) (fun c => ?_)
        · replace h := gTr c h
          refine g_bipush X (-12) dX6_ratesBy_101 (by decide) ?_
          exact g_iretR X h dX6_ratesBy_103
        · replace h := gF c h
          refine g_iload X dX6_ratesBy_88 0 rfl ?_
          refine g_aload_n X dX6_ratesBy_90 rfl 1 rfl ?_
          refine g_get X fl6_44 hNM_0 (shM_0 _) rfl dX6_ratesBy_91 ?_
          refine g_iload_n X dX6_ratesBy_94 rfl 2 rfl ?_
          obtain ⟨c, h⟩ := gGd h
          refine g_iald X hNM_11 (shM_11 _) rfl (gin_in c) dX6_ratesBy_95 ?_
          refine g_iconst X 3 dX6_ratesBy_96 (by decide) ?_
          refine g_isub X dX6_ratesBy_97 ?_
          refine g_icmp_le X 104 dX6_ratesBy_98 (by decide) (fun c => ?_) (fun c => ?_)
          · replace h := gTr c h
            refine g_bipush X 40 dX6_ratesBy_104 (by decide) ?_
            refine g_iload_n X dX6_ratesBy_106 rfl 2 rfl ?_
            refine g_imul X dX6_ratesBy_107 ?_
            refine g_iload X dX6_ratesBy_108 0 rfl ?_
            refine g_iadd X dX6_ratesBy_110 ?_
            refine g_istore X (ls' := [(8, .int ((40 * x1) + (x3 + (3 * x6)))), (7, .int (x3 + (3 * x6))), (0, .ref (r 0)), (1, .int x1), (3, .int x3), (4, .int x4), (5, .int x5), (6, .int x6)]) dX6_ratesBy_111 (by decide) rfl ?_
            refine g_iload X dX6_ratesBy_113 6 rfl ?_
            refine g_aload_n X dX6_ratesBy_115 rfl 2 rfl ?_
            refine g_aload_n X dX6_ratesBy_116 rfl 2 rfl ?_
            refine g_get X fl6_47 hNM_0 (shM_0 _) rfl dX6_ratesBy_117 ?_
            refine g_iload X dX6_ratesBy_120 0 rfl ?_
            obtain ⟨c, h⟩ := gGd h
            refine g_iald X hNM_12 (shM_12 _) rfl (gin_in c) dX6_ratesBy_122 ?_
            refine g_aload_n X dX6_ratesBy_123 rfl 2 rfl ?_
            refine g_get X fl6_47 hNM_0 (shM_0 _) rfl dX6_ratesBy_124 ?_
            refine g_iload X dX6_ratesBy_127 0 rfl ?_
            refine g_iconst X 1 dX6_ratesBy_129 (by decide) ?_
            refine g_iadd X dX6_ratesBy_130 ?_
            obtain ⟨c, h⟩ := gGd h
            refine g_iald X hNM_12 (shM_12 _) rfl (gin_in c) dX6_ratesBy_131 ?_
            refine g_aload_n X dX6_ratesBy_132 rfl 2 rfl ?_
            refine g_get X fl6_47 hNM_0 (shM_0 _) rfl dX6_ratesBy_133 ?_
            refine g_iload X dX6_ratesBy_136 0 rfl ?_
            refine g_iconst X 2 dX6_ratesBy_138 (by decide) ?_
            refine g_iadd X dX6_ratesBy_139 ?_
            obtain ⟨c, h⟩ := gGd h
            refine g_iald X hNM_12 (shM_12 _) rfl (gin_in c) dX6_ratesBy_140 ?_
            obtain ⟨y10, v11, hc12, h⟩ := gB_inv h
            refine g_callV X (st := [.int x5]) (st' := [.int y10, .int x5]) kcX6_rate kvX6_rate kl6_268 (⟨rfl, rfl, by decide, by decide⟩) (mX6_rate hc12) hNM_0 (shM_0 _) rfl rfl rfl (Nat.le_of_ble_eq_true rfl) rfl dX6_ratesBy_141 ?_
            refine g_if_lt X 151 dX6_ratesBy_144 (by decide) (fun c => ?_) (fun c => ?_)
            · replace h := gTr c h
              refine g_iconst X 0 dX6_ratesBy_151 (by decide) ?_
              refine g_sub X [2, 3, 4, 5, 7] (ls' := [(0, .ref (r 0)), (1, .int x1), (3, .int x3), (4, .int x4), (6, .int x6)]) rfl ?_
              exact bX6_ratesBy_152 X ih _ _ _ _ _ _ _  h
            · replace h := gF c h
              refine g_iconst X 1 dX6_ratesBy_147 (by decide) ?_
              refine g_goto X 152 dX6_ratesBy_148 (by decide) ?_
              refine g_sub X [2, 3, 4, 5, 7] (ls' := [(0, .ref (r 0)), (1, .int x1), (3, .int x3), (4, .int x4), (6, .int x6)]) rfl ?_
              exact bX6_ratesBy_152 X ih _ _ _ _ _ _ _  h
          · replace h := gF c h
            refine g_bipush X (-12) dX6_ratesBy_101 (by decide) ?_
            exact g_iretR X h dX6_ratesBy_103

set_option maxHeartbeats 4000000 in
set_option maxRecDepth 100000 in
theorem bX6_ratesBy_0 {l : Launch} {D : va_G} {cA : Nat → ClassId} {r : Nat → Nat} {G : gG} {xr : Int32} {v' : gV} (X : XM l D cA r RX6 cX6_ratesBy 9 (some .int) rmX6_ratesBy (some (.int xr)) v' G) (v : gV) (x1 : Int32) (x2 : Int32) (x3 : Int32) (x4 : Int32) (h : fX6_ratesBy v x1 x2 x3 x4 = some (xr, v')) : G v [(0, .ref (r 0)), (1, .int x1), (2, .int x2), (3, .int x3), (4, .int x4)] 0 [] := by
  unfold fX6_ratesBy at h
  refine g_iload_n X dX6_ratesBy_0 rfl 1 rfl ?_
  refine g_iconst X 0 dX6_ratesBy_1 (by decide) ?_
  refine g_iconst X 3 dX6_ratesBy_2 (by decide) ?_
  obtain ⟨y1, v2, hc3, h⟩ := gB_inv h
  refine g_callS X (st := []) (st' := [.int y1]) kcX6_in ktX6_in kl6_78 (⟨rfl, rfl, by decide, by decide⟩) (mX6_in hc3) rfl rfl (Nat.le_of_ble_eq_true rfl) rfl dX6_ratesBy_3 ?_
  refine g_if_eq X 28 dX6_ratesBy_6 (by decide) (fun c => ?_) (fun c => ?_)
  · replace h := gTr c h
    refine g_bipush X (-2) dX6_ratesBy_28 (by decide) ?_
    exact g_iretR X h dX6_ratesBy_30
  · replace h := gF c h
    refine g_iload_n X dX6_ratesBy_9 rfl 2 rfl ?_
    refine g_iconst X 0 dX6_ratesBy_10 (by decide) ?_
    refine g_iconst X 2 dX6_ratesBy_11 (by decide) ?_
    obtain ⟨y4, v5, hc6, h⟩ := gB_inv h
    refine g_callS X (st := []) (st' := [.int y4]) kcX6_in ktX6_in kl6_78 (⟨rfl, rfl, by decide, by decide⟩) (mX6_in hc6) rfl rfl (Nat.le_of_ble_eq_true rfl) rfl dX6_ratesBy_12 ?_
    refine g_if_eq X 28 dX6_ratesBy_15 (by decide) (fun c => ?_) (fun c => ?_)
    · replace h := gTr c h
      refine g_bipush X (-2) dX6_ratesBy_28 (by decide) ?_
      exact g_iretR X h dX6_ratesBy_30
    · replace h := gF c h
      refine g_iload X dX6_ratesBy_18 4 rfl ?_
      refine g_iconst X 0 dX6_ratesBy_20 (by decide) ?_
      refine g_iconst X 5 dX6_ratesBy_21 (by decide) ?_
      obtain ⟨y7, v8, hc9, h⟩ := gB_inv h
      refine g_callS X (st := []) (st' := [.int y7]) kcX6_in ktX6_in kl6_78 (⟨rfl, rfl, by decide, by decide⟩) (mX6_in hc9) rfl rfl (Nat.le_of_ble_eq_true rfl) rfl dX6_ratesBy_22 ?_
      refine g_if_ne X 31 dX6_ratesBy_25 (by decide) (fun c => ?_) (fun c => ?_)
      · replace h := gF c h
        refine g_aload_n X dX6_ratesBy_31 rfl 0 rfl ?_
        refine g_get X fl6_41 hNM_0 (shM_0 _) rfl dX6_ratesBy_32 ?_
        refine g_iload_n X dX6_ratesBy_35 rfl 1 rfl ?_
        obtain ⟨c, h⟩ := gGd h
        refine g_iald X hNM_10 (shM_10 _) rfl (gin_in c) dX6_ratesBy_36 ?_
        refine g_iconst X (-1) dX6_ratesBy_37 (by decide) ?_
        refine g_icmp_ne X 44 dX6_ratesBy_38 (by decide) (fun c => ?_) (fun c => ?_)
        · replace h := gF c h
          refine g_aload_n X dX6_ratesBy_44 rfl 0 rfl ?_
          refine g_get X fl6_41 hNM_0 (shM_0 _) rfl dX6_ratesBy_45 ?_
          refine g_iload_n X dX6_ratesBy_48 rfl 1 rfl ?_
          obtain ⟨c, h⟩ := gGd h
          refine g_iald X hNM_10 (shM_10 _) rfl (gin_in c) dX6_ratesBy_49 ?_
          refine g_iload_n X dX6_ratesBy_50 rfl 2 rfl ?_
          refine g_icmp_eq X 57 dX6_ratesBy_51 (by decide) (fun c => ?_) (fun c => ?_)
          · replace h := gTr c h
            refine g_iconst X 0 dX6_ratesBy_57 (by decide) ?_
            refine g_istore X (ls' := [(5, .int 0), (0, .ref (r 0)), (1, .int x1), (2, .int x2), (3, .int x3), (4, .int x4)]) dX6_ratesBy_58 (by decide) rfl ?_
            refine g_iconst X 0 dX6_ratesBy_60 (by decide) ?_
            refine g_istore X (ls' := [(6, .int 0), (5, .int 0), (0, .ref (r 0)), (1, .int x1), (2, .int x2), (3, .int x3), (4, .int x4)]) dX6_ratesBy_61 (by decide) rfl ?_
            refine g_sub X [2, 3, 5, 6, 1, 0] (ls' := [(0, .ref (r 0)), (1, .int x1), (3, .int x3), (4, .int x4), (5, .int 0), (6, .int 0)]) rfl ?_
            exact bX6_ratesBy_63 X  _ _ _ _ _ _ _  h
          · replace h := gF c h
            refine g_bipush X (-13) dX6_ratesBy_54 (by decide) ?_
            exact g_iretR X h dX6_ratesBy_56
        · replace h := gTr c h
          refine g_bipush X (-11) dX6_ratesBy_41 (by decide) ?_
          exact g_iretR X h dX6_ratesBy_43
      · replace h := gTr c h
        refine g_bipush X (-2) dX6_ratesBy_28 (by decide) ?_
        exact g_iretR X h dX6_ratesBy_30

theorem mX6_ratesBy {l : Launch} {D : va_G} {cA : Nat → ClassId} {r : Nat → Nat} {v : gV} {x1 : Int32} {x2 : Int32} {x3 : Int32} {x4 : Int32} {xr : Int32} {v' : gV} (h : fX6_ratesBy v x1 x2 x3 x4 = some (xr, v')) : Ct l D (tysM cA) (shM cA r) 19 r (ZM r) yX6_ratesBy cX6_ratesBy 9 (some .int) rmX6_ratesBy [.ref (r 0), .int x1, .int x2, .int x3, .int x4] v (some (.int xr)) v' := ct_of plX6 ZM_ok (Nat.le_of_ble_eq_true rfl) rfl (fun _ X => bX6_ratesBy_0 X v x1 x2 x3 x4 h)

def rmX6_isUnder : Room := { frames := 0, cells := 0, slots := 0, locals := 0 }

set_option maxHeartbeats 4000000 in
set_option maxRecDepth 100000 in
theorem bX6_isUnder_29 {l : Launch} {D : va_G} {cA : Nat → ClassId} {r : Nat → Nat} {G : gG} {xr : Int32} {v' : gV} (X : XM l D cA r RX6 cX6_isUnder 2 (some .boolean) rmX6_isUnder (some (.int xr)) v' G) (v : gV)  (h : fX6_isUnder_29 v  = some (xr, v')) : G v [] 29 [] := by
  unfold fX6_isUnder_29 at h
  refine g_iconst X 1 dX6_isUnder_29 (by decide) ?_
  refine g_goto X 34 dX6_isUnder_30 (by decide) ?_
  exact g_zretR X (Or.inr rfl) h dX6_isUnder_34

set_option maxHeartbeats 4000000 in
set_option maxRecDepth 100000 in
theorem bX6_isUnder_19 {l : Launch} {D : va_G} {cA : Nat → ClassId} {r : Nat → Nat} {G : gG} {xr : Int32} {v' : gV} (X : XM l D cA r RX6 cX6_isUnder 2 (some .boolean) rmX6_isUnder (some (.int xr)) v' G) (v : gV) (x0 : Int32) (x1 : Int32) (h : fX6_isUnder_19 v x0 x1 = some (xr, v')) : G v [(0, .int x0), (1, .int x1)] 19 [] := by
  unfold fX6_isUnder_19 at h
  refine g_iload_n X dX6_isUnder_19 rfl 1 rfl ?_
  refine g_iconst X 2 dX6_isUnder_20 (by decide) ?_
  refine g_icmp_ne X 33 dX6_isUnder_21 (by decide) (fun c => ?_) (fun c => ?_)
  · replace h := gF c h
    refine g_iconst X 0 dX6_isUnder_33 (by decide) ?_
    exact g_zretR X (Or.inl rfl) h dX6_isUnder_34
  · replace h := gTr c h
    refine g_iload_n X dX6_isUnder_24 rfl 0 rfl ?_
    refine g_iconst X 4 dX6_isUnder_25 (by decide) ?_
    refine g_icmp_ne X 33 dX6_isUnder_26 (by decide) (fun c => ?_) (fun c => ?_)
    · replace h := gF c h
      refine g_iconst X 0 dX6_isUnder_33 (by decide) ?_
      exact g_zretR X (Or.inl rfl) h dX6_isUnder_34
    · replace h := gTr c h
      refine g_sub X [] (ls' := []) rfl ?_
      exact bX6_isUnder_29 X  _   h

set_option maxHeartbeats 4000000 in
set_option maxRecDepth 100000 in
theorem bX6_isUnder_0 {l : Launch} {D : va_G} {cA : Nat → ClassId} {r : Nat → Nat} {G : gG} {xr : Int32} {v' : gV} (X : XM l D cA r RX6 cX6_isUnder 2 (some .boolean) rmX6_isUnder (some (.int xr)) v' G) (v : gV) (x0 : Int32) (x1 : Int32) (h : fX6_isUnder v x0 x1 = some (xr, v')) : G v [(0, .int x0), (1, .int x1)] 0 [] := by
  unfold fX6_isUnder at h
  refine g_iload_n X dX6_isUnder_0 rfl 1 rfl ?_
  refine g_if_eq X 29 dX6_isUnder_1 (by decide) (fun c => ?_) (fun c => ?_)
  · replace h := gTr c h
    refine g_sub X [] (ls' := []) rfl ?_
    exact bX6_isUnder_29 X  _   h
  · replace h := gF c h
    refine g_iload_n X dX6_isUnder_4 rfl 0 rfl ?_
    refine g_iload_n X dX6_isUnder_5 rfl 1 rfl ?_
    refine g_icmp_eq X 29 dX6_isUnder_6 (by decide) (fun c => ?_) (fun c => ?_)
    · replace h := gTr c h
      refine g_sub X [] (ls' := []) rfl ?_
      exact bX6_isUnder_29 X  _   h
    · replace h := gF c h
      refine g_iload_n X dX6_isUnder_9 rfl 1 rfl ?_
      refine g_iconst X 1 dX6_isUnder_10 (by decide) ?_
      refine g_icmp_ne X 19 dX6_isUnder_11 (by decide) (fun c => ?_) (fun c => ?_)
      · replace h := gF c h
        exact bX6_isUnder_19 X  _ _ _  h
      · replace h := gTr c h
        refine g_iload_n X dX6_isUnder_14 rfl 0 rfl ?_
        refine g_iconst X 3 dX6_isUnder_15 (by decide) ?_
        refine g_icmp_eq X 29 dX6_isUnder_16 (by decide) (fun c => ?_) (fun c => ?_)
        · replace h := gTr c h
          refine g_sub X [] (ls' := []) rfl ?_
          exact bX6_isUnder_29 X  _   h
        · replace h := gF c h
          exact bX6_isUnder_19 X  _ _ _  h

theorem mX6_isUnder {l : Launch} {D : va_G} {cA : Nat → ClassId} {r : Nat → Nat} {v : gV} {x0 : Int32} {x1 : Int32} {xr : Int32} {v' : gV} (h : fX6_isUnder v x0 x1 = some (xr, v')) : Ct l D (tysM cA) (shM cA r) 19 r (ZM r) yX6_isUnder cX6_isUnder 2 (some .boolean) rmX6_isUnder [.int x0, .int x1] v (some (.int xr)) v' := ct_of plX6 ZM_ok (Nat.le_of_ble_eq_true rfl) rfl (fun _ X => bX6_isUnder_0 X v x0 x1 h)

def rmX6_taken : Room := { frames := 1, cells := 0, slots := 0, locals := 22 }

set_option maxHeartbeats 4000000 in
set_option maxRecDepth 100000 in
theorem bX6_taken_0 {l : Launch} {D : va_G} {cA : Nat → ClassId} {r : Nat → Nat} {G : gG} {xr : Int32} {v' : gV} (X : XM l D cA r RX6 cX6_taken 3 (some .int) rmX6_taken (some (.int xr)) v' G) (v : gV) (x1 : Int32) (x2 : Int32) (h : fX6_taken v x1 x2 = some (xr, v')) : G v [(0, .ref (r 0)), (1, .int x1), (2, .int x2)] 0 [] := by
  unfold fX6_taken at h
  refine g_iload_n X dX6_taken_0 rfl 2 rfl ?_
  refine g_iconst X 0 dX6_taken_1 (by decide) ?_
  refine g_bipush X 6 dX6_taken_2 (by decide) ?_
  obtain ⟨y1, v2, hc3, h⟩ := gB_inv h
  refine g_callS X (st := []) (st' := [.int y1]) kcX6_in ktX6_in kl6_78 (⟨rfl, rfl, by decide, by decide⟩) (mX6_in hc3) rfl rfl (Nat.le_of_ble_eq_true rfl) rfl dX6_taken_4 ?_
  refine g_if_ne X 13 dX6_taken_7 (by decide) (fun c => ?_) (fun c => ?_)
  · replace h := gF c h
    refine g_iload_n X dX6_taken_13 rfl 1 rfl ?_
    refine g_iconst X 0 dX6_taken_14 (by decide) ?_
    refine g_bipush X 8 dX6_taken_15 (by decide) ?_
    obtain ⟨y4, v5, hc6, h⟩ := gB_inv h
    refine g_callS X (st := []) (st' := [.int y4]) kcX6_in ktX6_in kl6_78 (⟨rfl, rfl, by decide, by decide⟩) (mX6_in hc6) rfl rfl (Nat.le_of_ble_eq_true rfl) rfl dX6_taken_17 ?_
    refine g_if_ne X 26 dX6_taken_20 (by decide) (fun c => ?_) (fun c => ?_)
    · replace h := gF c h
      refine g_iload_n X dX6_taken_26 rfl 1 rfl ?_
      refine g_iconst X 4 dX6_taken_27 (by decide) ?_
      refine g_icmp_ge X 63 dX6_taken_28 (by decide) (fun c => ?_) (fun c => ?_)
      · replace h := gTr c h
        refine g_iload_n X dX6_taken_63 rfl 1 rfl ?_
        refine g_iconst X 4 dX6_taken_64 (by decide) ?_
        refine g_isub X dX6_taken_65 ?_
        refine g_aload_n X dX6_taken_66 rfl 0 rfl ?_
        refine g_get X fl6_75 hNM_0 (shM_0 _) rfl dX6_taken_67 ?_
        refine g_icmp_lt X 78 dX6_taken_70 (by decide) (fun c => ?_) (fun c => ?_)
        · replace h := gTr c h
          refine g_iload_n X dX6_taken_78 rfl 2 rfl ?_
          refine g_bipush X 6 dX6_taken_79 (by decide) ?_
          refine g_icmp_ge X 105 dX6_taken_81 (by decide) (fun c => ?_) (fun c => ?_)
          · replace h := gTr c h
            refine g_bipush X (-13) dX6_taken_105 (by decide) ?_
            exact g_iretR X h dX6_taken_107
          · replace h := gF c h
            refine g_aload_n X dX6_taken_84 rfl 0 rfl ?_
            refine g_get X fl6_13 hNM_0 (shM_0 _) rfl dX6_taken_85 ?_
            refine g_iload_n X dX6_taken_88 rfl 1 rfl ?_
            refine g_iconst X 4 dX6_taken_89 (by decide) ?_
            refine g_isub X dX6_taken_90 ?_
            obtain ⟨c, h⟩ := gGd h
            refine g_iald X hNM_2 (shM_2 _) rfl (gin_in c) dX6_taken_91 ?_
            refine g_iload_n X dX6_taken_92 rfl 2 rfl ?_
            obtain ⟨y7, v8, hc9, h⟩ := gB_inv h
            refine g_callS X (st := []) (st' := [.int y7]) kcX6_isUnder ktX6_isUnder kl6_271 (⟨rfl, rfl, by decide, by decide⟩) (mX6_isUnder hc9) rfl rfl (Nat.le_of_ble_eq_true rfl) rfl dX6_taken_93 ?_
            refine g_if_eq X 105 dX6_taken_96 (by decide) (fun c => ?_) (fun c => ?_)
            · replace h := gTr c h
              refine g_bipush X (-13) dX6_taken_105 (by decide) ?_
              exact g_iretR X h dX6_taken_107
            · replace h := gF c h
              refine g_iload_n X dX6_taken_99 rfl 1 rfl ?_
              refine g_iconst X 4 dX6_taken_100 (by decide) ?_
              refine g_isub X dX6_taken_101 ?_
              refine g_goto X 107 dX6_taken_102 (by decide) ?_
              exact g_iretR X h dX6_taken_107
        · replace h := gF c h
          refine g_bipush X (-11) dX6_taken_73 (by decide) ?_
          refine g_goto X 107 dX6_taken_75 (by decide) ?_
          exact g_iretR X h dX6_taken_107
      · replace h := gF c h
        refine g_aload_n X dX6_taken_31 rfl 0 rfl ?_
        refine g_get X fl6_7 hNM_0 (shM_0 _) rfl dX6_taken_32 ?_
        refine g_iload_n X dX6_taken_35 rfl 1 rfl ?_
        obtain ⟨c, h⟩ := gGd h
        refine g_iald X hNM_1 (shM_1 _) rfl (gin_in c) dX6_taken_36 ?_
        refine g_if_ne X 45 dX6_taken_37 (by decide) (fun c => ?_) (fun c => ?_)
        · replace h := gF c h
          refine g_iload_n X dX6_taken_45 rfl 2 rfl ?_
          refine g_bipush X 6 dX6_taken_46 (by decide) ?_
          refine g_icmp_ne X 60 dX6_taken_48 (by decide) (fun c => ?_) (fun c => ?_)
          · replace h := gF c h
            refine g_bipush X (-13) dX6_taken_60 (by decide) ?_
            exact g_iretR X h dX6_taken_62
          · replace h := gTr c h
            refine g_aload_n X dX6_taken_51 rfl 0 rfl ?_
            refine g_get X fl6_7 hNM_0 (shM_0 _) rfl dX6_taken_52 ?_
            refine g_iload_n X dX6_taken_55 rfl 1 rfl ?_
            obtain ⟨c, h⟩ := gGd h
            refine g_iald X hNM_1 (shM_1 _) rfl (gin_in c) dX6_taken_56 ?_
            refine g_goto X 62 dX6_taken_57 (by decide) ?_
            exact g_iretR X h dX6_taken_62
        · replace h := gTr c h
          refine g_bipush X (-11) dX6_taken_40 (by decide) ?_
          refine g_goto X 62 dX6_taken_42 (by decide) ?_
          exact g_iretR X h dX6_taken_62
    · replace h := gTr c h
      refine g_bipush X (-12) dX6_taken_23 (by decide) ?_
      exact g_iretR X h dX6_taken_25
  · replace h := gTr c h
    refine g_bipush X (-2) dX6_taken_10 (by decide) ?_
    exact g_iretR X h dX6_taken_12

theorem mX6_taken {l : Launch} {D : va_G} {cA : Nat → ClassId} {r : Nat → Nat} {v : gV} {x1 : Int32} {x2 : Int32} {xr : Int32} {v' : gV} (h : fX6_taken v x1 x2 = some (xr, v')) : Ct l D (tysM cA) (shM cA r) 19 r (ZM r) yX6_taken cX6_taken 3 (some .int) rmX6_taken [.ref (r 0), .int x1, .int x2] v (some (.int xr)) v' := ct_of plX6 ZM_ok (Nat.le_of_ble_eq_true rfl) rfl (fun _ X => bX6_taken_0 X v x1 x2 h)
