def rmX5_mostOf : Room := { frames := 0, cells := 0, slots := 0, locals := 0 }

set_option maxHeartbeats 4000000 in
set_option maxRecDepth 100000 in
theorem bX5_mostOf_0 {l : Launch} {D : va_G} {cA : Nat → ClassId} {r : Nat → Nat} {G : gG} {xr : Int32} {v' : gV} (X : XC l D cA r RX5 cX5_mostOf 1 (some .int) rmX5_mostOf (some (.int xr)) v' G) (v : gV) (x0 : Int32) (h : fX5_mostOf v x0 = some (xr, v')) : G v [(0, .int x0)] 0 [] := by
  unfold fX5_mostOf at h
  refine g_iload_n X dX5_mostOf_0 rfl 0 rfl ?_
  refine g_iconst X 4 dX5_mostOf_1 (by decide) ?_
  refine g_icmp_ne X 8 dX5_mostOf_2 (by decide) (fun c => ?_) (fun c => ?_)
  · replace h := gF c h
    refine g_iload_n X dX5_mostOf_8 rfl 0 rfl ?_
    refine g_bipush X 6 dX5_mostOf_9 (by decide) ?_
    refine g_icmp_ne X 19 dX5_mostOf_11 (by decide) (fun c => ?_) (fun c => ?_)
    · replace h := gF c h
      refine g_sipush X 999 dX5_mostOf_19 (by decide) ?_
      exact g_iretR X h dX5_mostOf_22
    · replace h := gTr c h
      refine g_bipush X 99 dX5_mostOf_14 (by decide) ?_
      refine g_goto X 22 dX5_mostOf_16 (by decide) ?_
      exact g_iretR X h dX5_mostOf_22
  · replace h := gTr c h
    refine g_bipush X 99 dX5_mostOf_5 (by decide) ?_
    exact g_iretR X h dX5_mostOf_7

theorem mX5_mostOf {l : Launch} {D : va_G} {cA : Nat → ClassId} {r : Nat → Nat} {v : gV} {x0 : Int32} {xr : Int32} {v' : gV} (h : fX5_mostOf v x0 = some (xr, v')) : Ct l D (tysC cA) (shC cA r) 50 r (ZC r) yX5_mostOf cX5_mostOf 1 (some .int) rmX5_mostOf [.int x0] v (some (.int xr)) v' := ct_of plX5 ZC_ok (Nat.le_of_ble_eq_true rfl) rfl (fun _ X => bX5_mostOf_0 X v x0 h)

def rmX5_set : Room := { frames := 1, cells := 0, slots := 0, locals := 20 }

set_option maxHeartbeats 4000000 in
set_option maxRecDepth 100000 in
theorem bX5_set_0 {l : Launch} {D : va_G} {cA : Nat → ClassId} {r : Nat → Nat} {G : gG} {xr : Int32} {v' : gV} (X : XC l D cA r RX5 cX5_set 4 (some .int) rmX5_set (some (.int xr)) v' G) (v : gV) (x1 : Int32) (x2 : Int32) (h : fX5_set v x1 x2 = some (xr, v')) : G v [(0, .ref (r 0)), (1, .int x1), (2, .int x2)] 0 [] := by
  unfold fX5_set at h
  refine g_iload_n X dX5_set_0 rfl 1 rfl ?_
  refine g_if_lt X 10 dX5_set_1 (by decide) (fun c => ?_) (fun c => ?_)
  · replace h := gTr c h
    refine g_iconst X (-1) dX5_set_10 (by decide) ?_
    exact g_iretR X h dX5_set_11
  · replace h := gF c h
    refine g_iload_n X dX5_set_4 rfl 1 rfl ?_
    refine g_bipush X 7 dX5_set_5 (by decide) ?_
    refine g_icmp_lt X 12 dX5_set_7 (by decide) (fun c => ?_) (fun c => ?_)
    · replace h := gTr c h
      refine g_iload_n X dX5_set_12 rfl 2 rfl ?_
      refine g_if_lt X 24 dX5_set_13 (by decide) (fun c => ?_) (fun c => ?_)
      · replace h := gTr c h
        refine g_bipush X (-2) dX5_set_24 (by decide) ?_
        exact g_iretR X h dX5_set_26
      · replace h := gF c h
        refine g_iload_n X dX5_set_16 rfl 2 rfl ?_
        refine g_iload_n X dX5_set_17 rfl 1 rfl ?_
        obtain ⟨y1, v2, hc3, h⟩ := gB_inv h
        refine g_callS X (st := [.int x2]) (st' := [.int y1, .int x2]) kcX5_mostOf ktX5_mostOf kl5_66 (⟨rfl, rfl, by decide, by decide⟩) (mX5_mostOf hc3) rfl rfl (Nat.le_of_ble_eq_true rfl) rfl dX5_set_18 ?_
        refine g_icmp_le X 27 dX5_set_21 (by decide) (fun c => ?_) (fun c => ?_)
        · replace h := gTr c h
          refine g_aload_n X dX5_set_27 rfl 0 rfl ?_
          refine g_get X fl5_9 hNC_0 (shC_0 _) rfl dX5_set_28 ?_
          refine g_iload_n X dX5_set_31 rfl 1 rfl ?_
          obtain ⟨c, h⟩ := gGd h
          refine g_iald X hNC_1 (shC_1 _) rfl (gin_in c) dX5_set_32 ?_
          refine g_istore_n X (ls' := [(3, .int (v2 1 x1.toNatClampNeg)), (0, .ref (r 0)), (1, .int x1), (2, .int x2)]) dX5_set_33 rfl (by decide) rfl ?_
          refine g_aload_n X dX5_set_34 rfl 1 rfl ?_
          refine g_get X fl5_9 hNC_0 (shC_0 _) rfl dX5_set_35 ?_
          refine g_iload_n X dX5_set_38 rfl 2 rfl ?_
          refine g_iload_n X dX5_set_39 rfl 3 rfl ?_
          obtain ⟨c, h⟩ := gGd h
          refine g_iast X hNC_1 (shC_1) rfl (gin_in c) dX5_set_40 ?_
          refine g_iload_n X dX5_set_41 rfl 0 rfl ?_
          exact g_iretR X h dX5_set_42
        · replace h := gF c h
          refine g_bipush X (-2) dX5_set_24 (by decide) ?_
          exact g_iretR X h dX5_set_26
    · replace h := gF c h
      refine g_iconst X (-1) dX5_set_10 (by decide) ?_
      exact g_iretR X h dX5_set_11

theorem mX5_set {l : Launch} {D : va_G} {cA : Nat → ClassId} {r : Nat → Nat} {v : gV} {x1 : Int32} {x2 : Int32} {xr : Int32} {v' : gV} (h : fX5_set v x1 x2 = some (xr, v')) : Ct l D (tysC cA) (shC cA r) 50 r (ZC r) yX5_set cX5_set 4 (some .int) rmX5_set [.ref (r 0), .int x1, .int x2] v (some (.int xr)) v' := ct_of plX5 ZC_ok (Nat.le_of_ble_eq_true rfl) rfl (fun _ X => bX5_set_0 X v x1 x2 h)

def rmX5_count : Room := { frames := 0, cells := 0, slots := 0, locals := 0 }

set_option maxHeartbeats 4000000 in
set_option maxRecDepth 100000 in
theorem bX5_count_17 {l : Launch} {D : va_G} {cA : Nat → ClassId} {r : Nat → Nat} {G : gG} {xr : Int32} {v' : gV} (X : XC l D cA r RX5 cX5_count 2 (some .int) rmX5_count (some (.int xr)) v' G) (v : gV) (x1 : Int32) (h : fX5_count_17 v x1 = some (xr, v')) : G v [(0, .ref (r 0)), (1, .int x1)] 17 [] := by
  unfold fX5_count_17 at h
  refine g_iload_n X dX5_count_17 rfl 1 rfl ?_
  by_cases c : x1 = 7
  · replace h := gTr c h
    refine g_tableIn X 48 dX5_count_18 (by rw [c]; decide) (by rw [c]; decide) (by rw [c]; rfl) (by decide) ?_
    refine g_aload_n X dX5_count_48 rfl 0 rfl ?_
    refine g_get X fl5_24 hNC_0 (shC_0 _) rfl dX5_count_49 ?_
    refine g_get X fl5_70 hNC_4 (shC_4 _) rfl dX5_count_52 ?_
    exact g_iretR X h dX5_count_55
  · replace h := gF c h
    have n7 : (x1).toInt ≠ 7 := fun q => c (Int32.toInt_inj.mp (q.trans (by decide)))
    clear c
    by_cases c : x1 = 8
    · replace h := gTr c h
      refine g_tableIn X 56 dX5_count_18 (by rw [c]; decide) (by rw [c]; decide) (by rw [c]; rfl) (by decide) ?_
      refine g_aload_n X dX5_count_56 rfl 0 rfl ?_
      refine g_get X fl5_62 hNC_0 (shC_0 _) rfl dX5_count_57 ?_
      exact g_iretR X h dX5_count_60
    · replace h := gF c h
      have n8 : (x1).toInt ≠ 8 := fun q => c (Int32.toInt_inj.mp (q.trans (by decide)))
      clear c
      by_cases c : x1 = 9
      · replace h := gTr c h
        refine g_tableIn X 61 dX5_count_18 (by rw [c]; decide) (by rw [c]; decide) (by rw [c]; rfl) (by decide) ?_
        refine g_aload_n X dX5_count_61 rfl 0 rfl ?_
        refine g_get X fl5_73 hNC_0 (shC_0 _) rfl dX5_count_62 ?_
        exact g_iretR X h dX5_count_65
      · replace h := gF c h
        have n9 : (x1).toInt ≠ 9 := fun q => c (Int32.toInt_inj.mp (q.trans (by decide)))
        clear c
        by_cases c : x1 = 10
        · replace h := gTr c h
          refine g_tableIn X 66 dX5_count_18 (by rw [c]; decide) (by rw [c]; decide) (by rw [c]; rfl) (by decide) ?_
          refine g_aload_n X dX5_count_66 rfl 0 rfl ?_
          refine g_get X fl5_31 hNC_0 (shC_0 _) rfl dX5_count_67 ?_
          refine g_get X fl5_76 hNC_5 (shC_5 _) rfl dX5_count_70 ?_
          exact g_iretR X h dX5_count_73
        · replace h := gF c h
          have n10 : (x1).toInt ≠ 10 := fun q => c (Int32.toInt_inj.mp (q.trans (by decide)))
          clear c
          refine g_tableOut X 74 dX5_count_18 (by omega) (by decide) ?_
          refine g_bipush X (-2) dX5_count_74 (by decide) ?_
          exact g_iretR X h dX5_count_76

set_option maxHeartbeats 4000000 in
set_option maxRecDepth 100000 in
theorem bX5_count_0 {l : Launch} {D : va_G} {cA : Nat → ClassId} {r : Nat → Nat} {G : gG} {xr : Int32} {v' : gV} (X : XC l D cA r RX5 cX5_count 2 (some .int) rmX5_count (some (.int xr)) v' G) (v : gV) (x1 : Int32) (h : fX5_count v x1 = some (xr, v')) : G v [(0, .ref (r 0)), (1, .int x1)] 0 [] := by
  unfold fX5_count at h
  refine g_iload_n X dX5_count_0 rfl 1 rfl ?_
  refine g_if_lt X 17 dX5_count_1 (by decide) (fun c => ?_) (fun c => ?_)
  · replace h := gTr c h
    exact bX5_count_17 X  _ _  h
  · replace h := gF c h
    refine g_iload_n X dX5_count_4 rfl 1 rfl ?_
    refine g_bipush X 7 dX5_count_5 (by decide) ?_
    refine g_icmp_ge X 17 dX5_count_7 (by decide) (fun c => ?_) (fun c => ?_)
    · replace h := gTr c h
      exact bX5_count_17 X  _ _  h
    · replace h := gF c h
      refine g_aload_n X dX5_count_10 rfl 0 rfl ?_
      refine g_get X fl5_9 hNC_0 (shC_0 _) rfl dX5_count_11 ?_
      refine g_iload_n X dX5_count_14 rfl 1 rfl ?_
      obtain ⟨c, h⟩ := gGd h
      refine g_iald X hNC_1 (shC_1 _) rfl (gin_in c) dX5_count_15 ?_
      exact g_iretR X h dX5_count_16

theorem mX5_count {l : Launch} {D : va_G} {cA : Nat → ClassId} {r : Nat → Nat} {v : gV} {x1 : Int32} {xr : Int32} {v' : gV} (h : fX5_count v x1 = some (xr, v')) : Ct l D (tysC cA) (shC cA r) 50 r (ZC r) yX5_count cX5_count 2 (some .int) rmX5_count [.ref (r 0), .int x1] v (some (.int xr)) v' := ct_of plX5 ZC_ok (Nat.le_of_ble_eq_true rfl) rfl (fun _ X => bX5_count_0 X v x1 h)

def rmX5_isByte : Room := { frames := 0, cells := 0, slots := 0, locals := 0 }

set_option maxHeartbeats 4000000 in
set_option maxRecDepth 100000 in
theorem bX5_isByte_0 {l : Launch} {D : va_G} {cA : Nat → ClassId} {r : Nat → Nat} {G : gG} {xr : Int32} {v' : gV} (X : XC l D cA r RX5 cX5_isByte 1 (some .boolean) rmX5_isByte (some (.int xr)) v' G) (v : gV) (x0 : Int32) (h : fX5_isByte v x0 = some (xr, v')) : G v [(0, .int x0)] 0 [] := by
  unfold fX5_isByte at h
  refine g_iload_n X dX5_isByte_0 rfl 0 rfl ?_
  refine g_if_lt X 15 dX5_isByte_1 (by decide) (fun c => ?_) (fun c => ?_)
  · replace h := gTr c h
    refine g_iconst X 0 dX5_isByte_15 (by decide) ?_
    exact g_zretR X (Or.inl rfl) h dX5_isByte_16
  · replace h := gF c h
    refine g_iload_n X dX5_isByte_4 rfl 0 rfl ?_
    refine g_sipush X 255 dX5_isByte_5 (by decide) ?_
    refine g_icmp_gt X 15 dX5_isByte_8 (by decide) (fun c => ?_) (fun c => ?_)
    · replace h := gTr c h
      refine g_iconst X 0 dX5_isByte_15 (by decide) ?_
      exact g_zretR X (Or.inl rfl) h dX5_isByte_16
    · replace h := gF c h
      refine g_iconst X 1 dX5_isByte_11 (by decide) ?_
      refine g_goto X 16 dX5_isByte_12 (by decide) ?_
      exact g_zretR X (Or.inr rfl) h dX5_isByte_16

theorem mX5_isByte {l : Launch} {D : va_G} {cA : Nat → ClassId} {r : Nat → Nat} {v : gV} {x0 : Int32} {xr : Int32} {v' : gV} (h : fX5_isByte v x0 = some (xr, v')) : Ct l D (tysC cA) (shC cA r) 50 r (ZC r) yX5_isByte cX5_isByte 1 (some .boolean) rmX5_isByte [.int x0] v (some (.int xr)) v' := ct_of plX5 ZC_ok (Nat.le_of_ble_eq_true rfl) rfl (fun _ X => bX5_isByte_0 X v x0 h)

def rmX5_feed : Room := { frames := 1, cells := 0, slots := 0, locals := 21 }

set_option maxHeartbeats 4000000 in
set_option maxRecDepth 100000 in
theorem bX5_feed_125 {l : Launch} {D : va_G} {cA : Nat → ClassId} {r : Nat → Nat} {G : gG} {xr : Int32} {v' : gV} {k72 : gV → Int32 → Int32 → Int32 → Int32 → Int32 → Int32 → Int32 → Option (Int32 × gV)} (X : XC l D cA r RX5 cX5_feed 8 (some .int) rmX5_feed (some (.int xr)) v' G) (K72 : ∀ (v : gV) (x1 : Int32) (x2 : Int32) (x3 : Int32) (x4 : Int32) (x5 : Int32) (x6 : Int32) (x7 : Int32), k72 v x1 x2 x3 x4 x5 x6 x7 = some (xr, v') → G v [(0, .ref (r 0)), (1, .int x1), (2, .int x2), (3, .int x3), (4, .int x4), (5, .int x5), (6, .int x6), (7, .int x7)] 72 []) (v : gV) (x1 : Int32) (x2 : Int32) (x3 : Int32) (x4 : Int32) (x5 : Int32) (x6 : Int32) (x7 : Int32) (s1 : Int32) (h : fX5_feed_125 k72 v x1 x2 x3 x4 x5 x6 x7 s1 = some (xr, v')) : G v [(0, .ref (r 0)), (1, .int x1), (2, .int x2), (3, .int x3), (4, .int x4), (5, .int x5), (6, .int x6), (7, .int x7)] 125 [.int s1, .ref (r 5)] := by
  unfold fX5_feed_125 at h
  obtain ⟨y16, v17, hc18, h⟩ := gB_inv h
  refine g_callV X (st := []) (st' := []) kcX3_append kvX3_append kl5_81 (⟨rfl, rfl, by decide, by decide⟩) (mX3_append hc18) hNC_5 (shC_5 _) rfl rfl rfl (Nat.le_of_ble_eq_true rfl) rfl dX5_feed_125 ?_
  refine g_iinc X (x7 + 1) [(7, .int (x7 + 1)), (0, .ref (r 0)), (1, .int x1), (2, .int x2), (3, .int x3), (4, .int x4), (5, .int x5), (6, .int x6)] dX5_feed_128 7 rfl rfl (by decide) rfl ?_
  refine g_goto X 72 dX5_feed_131 (by decide) ?_
  refine g_sub X [1, 2, 3, 4, 5, 6, 7, 0] (ls' := [(0, .ref (r 0)), (1, .int x1), (2, .int x2), (3, .int x3), (4, .int x4), (5, .int x5), (6, .int x6), (7, .int (x7 + 1))]) rfl ?_
  exact K72 _ _ _ _ _ _ _ _  h

set_option maxHeartbeats 4000000 in
set_option maxRecDepth 100000 in
theorem bX5_feed_72 {l : Launch} {D : va_G} {cA : Nat → ClassId} {r : Nat → Nat} {G : gG} {xr : Int32} {v' : gV} (X : XC l D cA r RX5 cX5_feed 8 (some .int) rmX5_feed (some (.int xr)) v' G) : ∀ (n : Nat) (v : gV) (x1 : Int32) (x2 : Int32) (x3 : Int32) (x4 : Int32) (x5 : Int32) (x6 : Int32) (x7 : Int32), fX5_feed_72 n v x1 x2 x3 x4 x5 x6 x7 = some (xr, v') → G v [(0, .ref (r 0)), (1, .int x1), (2, .int x2), (3, .int x3), (4, .int x4), (5, .int x5), (6, .int x6), (7, .int x7)] 72 [] := by
  intro n
  induction n with
  | zero => intro v x1 x2 x3 x4 x5 x6 x7 h; rw [fX5_feed_72] at h; cases h
  | succ n ih =>
    intro v x1 x2 x3 x4 x5 x6 x7 h
    rw [fX5_feed_72] at h
    refine g_iload X dX5_feed_72 7 rfl ?_
    refine g_iload_n X dX5_feed_74 rfl 1 rfl ?_
    refine g_icmp_ge X 134 dX5_feed_75 (by decide) (fun c => ?_) (fun c => ?_)
    · replace h := gTr c h
      refine g_aload_n X dX5_feed_134 rfl 0 rfl ?_
      refine g_get X fl5_31 hNC_0 (shC_0 _) rfl dX5_feed_135 ?_
      refine g_get X fl5_76 hNC_5 (shC_5 _) rfl dX5_feed_138 ?_
      exact g_iretR X h dX5_feed_141
    · replace h := gF c h
      refine g_aload_n X dX5_feed_78 rfl 0 rfl ?_
      refine g_get X fl5_31 hNC_0 (shC_0 _) rfl dX5_feed_79 ?_
      refine g_iload X dX5_feed_82 7 rfl ?_
      refine g_if_ne X 91 dX5_feed_84 (by decide) (fun c => ?_) (fun c => ?_)
      · replace h := gF c h
        refine g_iload X dX5_feed_91 7 rfl ?_
        refine g_iconst X 1 dX5_feed_93 (by decide) ?_
        refine g_icmp_ne X 101 dX5_feed_94 (by decide) (fun c => ?_) (fun c => ?_)
        · replace h := gF c h
          refine g_iload X dX5_feed_101 7 rfl ?_
          refine g_iconst X 2 dX5_feed_103 (by decide) ?_
          refine g_icmp_ne X 112 dX5_feed_104 (by decide) (fun c => ?_) (fun c => ?_)
          · replace h := gF c h
            refine g_iload X dX5_feed_112 7 rfl ?_
            refine g_iconst X 3 dX5_feed_114 (by decide) ?_
            refine g_icmp_ne X 123 dX5_feed_115 (by decide) (fun c => ?_) (fun c => ?_)
            · replace h := gF c h
              refine g_iload X dX5_feed_123 6 rfl ?_
              exact bX5_feed_125 X ih _ _ _ _ _ _ _ _ _  h
            · replace h := gTr c h
              refine g_iload X dX5_feed_118 5 rfl ?_
              refine g_goto X 125 dX5_feed_120 (by decide) ?_
              exact bX5_feed_125 X ih _ _ _ _ _ _ _ _ _  h
          · replace h := gTr c h
            refine g_iload X dX5_feed_107 4 rfl ?_
            refine g_goto X 125 dX5_feed_109 (by decide) ?_
            exact bX5_feed_125 X ih _ _ _ _ _ _ _ _ _  h
        · replace h := gTr c h
          refine g_iload_n X dX5_feed_97 rfl 3 rfl ?_
          refine g_goto X 125 dX5_feed_98 (by decide) ?_
          exact bX5_feed_125 X ih _ _ _ _ _ _ _ _ _  h
      · replace h := gTr c h
        refine g_iload_n X dX5_feed_87 rfl 2 rfl ?_
        refine g_goto X 125 dX5_feed_88 (by decide) ?_
        exact bX5_feed_125 X ih _ _ _ _ _ _ _ _ _  h

set_option maxHeartbeats 4000000 in
set_option maxRecDepth 100000 in
theorem bX5_feed_0 {l : Launch} {D : va_G} {cA : Nat → ClassId} {r : Nat → Nat} {G : gG} {xr : Int32} {v' : gV} (X : XC l D cA r RX5 cX5_feed 8 (some .int) rmX5_feed (some (.int xr)) v' G) (v : gV) (x1 : Int32) (x2 : Int32) (x3 : Int32) (x4 : Int32) (x5 : Int32) (x6 : Int32) (h : fX5_feed v x1 x2 x3 x4 x5 x6 = some (xr, v')) : G v [(0, .ref (r 0)), (1, .int x1), (2, .int x2), (3, .int x3), (4, .int x4), (5, .int x5), (6, .int x6)] 0 [] := by
  unfold fX5_feed at h
  refine g_iload_n X dX5_feed_0 rfl 1 rfl ?_
  refine g_iconst X 1 dX5_feed_1 (by decide) ?_
  refine g_icmp_lt X 48 dX5_feed_2 (by decide) (fun c => ?_) (fun c => ?_)
  · replace h := gTr c h
    refine g_bipush X (-2) dX5_feed_48 (by decide) ?_
    exact g_iretR X h dX5_feed_50
  · replace h := gF c h
    refine g_iload_n X dX5_feed_5 rfl 1 rfl ?_
    refine g_iconst X 5 dX5_feed_6 (by decide) ?_
    refine g_icmp_gt X 48 dX5_feed_7 (by decide) (fun c => ?_) (fun c => ?_)
    · replace h := gTr c h
      refine g_bipush X (-2) dX5_feed_48 (by decide) ?_
      exact g_iretR X h dX5_feed_50
    · replace h := gF c h
      refine g_iload_n X dX5_feed_10 rfl 2 rfl ?_
      obtain ⟨y1, v2, hc3, h⟩ := gB_inv h
      refine g_callS X (st := []) (st' := [.int y1]) kcX5_isByte ktX5_isByte kl5_77 (⟨rfl, rfl, by decide, by decide⟩) (mX5_isByte hc3) rfl rfl (Nat.le_of_ble_eq_true rfl) rfl dX5_feed_11 ?_
      refine g_if_eq X 48 dX5_feed_14 (by decide) (fun c => ?_) (fun c => ?_)
      · replace h := gTr c h
        refine g_bipush X (-2) dX5_feed_48 (by decide) ?_
        exact g_iretR X h dX5_feed_50
      · replace h := gF c h
        refine g_iload_n X dX5_feed_17 rfl 3 rfl ?_
        obtain ⟨y4, v5, hc6, h⟩ := gB_inv h
        refine g_callS X (st := []) (st' := [.int y4]) kcX5_isByte ktX5_isByte kl5_77 (⟨rfl, rfl, by decide, by decide⟩) (mX5_isByte hc6) rfl rfl (Nat.le_of_ble_eq_true rfl) rfl dX5_feed_18 ?_
        refine g_if_eq X 48 dX5_feed_21 (by decide) (fun c => ?_) (fun c => ?_)
        · replace h := gTr c h
          refine g_bipush X (-2) dX5_feed_48 (by decide) ?_
          exact g_iretR X h dX5_feed_50
        · replace h := gF c h
          refine g_iload X dX5_feed_24 4 rfl ?_
          obtain ⟨y7, v8, hc9, h⟩ := gB_inv h
          refine g_callS X (st := []) (st' := [.int y7]) kcX5_isByte ktX5_isByte kl5_77 (⟨rfl, rfl, by decide, by decide⟩) (mX5_isByte hc9) rfl rfl (Nat.le_of_ble_eq_true rfl) rfl dX5_feed_26 ?_
          refine g_if_eq X 48 dX5_feed_29 (by decide) (fun c => ?_) (fun c => ?_)
          · replace h := gTr c h
            refine g_bipush X (-2) dX5_feed_48 (by decide) ?_
            exact g_iretR X h dX5_feed_50
          · replace h := gF c h
            refine g_iload X dX5_feed_32 5 rfl ?_
            obtain ⟨y10, v11, hc12, h⟩ := gB_inv h
            refine g_callS X (st := []) (st' := [.int y10]) kcX5_isByte ktX5_isByte kl5_77 (⟨rfl, rfl, by decide, by decide⟩) (mX5_isByte hc12) rfl rfl (Nat.le_of_ble_eq_true rfl) rfl dX5_feed_34 ?_
            refine g_if_eq X 48 dX5_feed_37 (by decide) (fun c => ?_) (fun c => ?_)
            · replace h := gTr c h
              refine g_bipush X (-2) dX5_feed_48 (by decide) ?_
              exact g_iretR X h dX5_feed_50
            · replace h := gF c h
              refine g_iload X dX5_feed_40 6 rfl ?_
              obtain ⟨y13, v14, hc15, h⟩ := gB_inv h
              refine g_callS X (st := []) (st' := [.int y13]) kcX5_isByte ktX5_isByte kl5_77 (⟨rfl, rfl, by decide, by decide⟩) (mX5_isByte hc15) rfl rfl (Nat.le_of_ble_eq_true rfl) rfl dX5_feed_42 ?_
              refine g_if_ne X 51 dX5_feed_45 (by decide) (fun c => ?_) (fun c => ?_)
              · replace h := gF c h
                refine g_aload_n X dX5_feed_51 rfl 0 rfl ?_
                refine g_get X fl5_31 hNC_0 (shC_0 _) rfl dX5_feed_52 ?_
                refine g_get X fl5_76 hNC_5 (shC_5 _) rfl dX5_feed_55 ?_
                refine g_iload_n X dX5_feed_58 rfl 1 rfl ?_
                refine g_iadd X dX5_feed_59 ?_
                refine g_sipush X 160 dX5_feed_60 (by decide) ?_
                refine g_icmp_le X 69 dX5_feed_63 (by decide) (fun c => ?_) (fun c => ?_)
                · replace h := gTr c h
                  refine g_iconst X 0 dX5_feed_69 (by decide) ?_
                  refine g_istore X (ls' := [(7, .int 0), (0, .ref (r 0)), (1, .int x1), (2, .int x2), (3, .int x3), (4, .int x4), (5, .int x5), (6, .int x6)]) dX5_feed_70 (by decide) rfl ?_
                  refine g_sub X [1, 2, 3, 4, 5, 6, 7, 0] (ls' := [(0, .ref (r 0)), (1, .int x1), (2, .int x2), (3, .int x3), (4, .int x4), (5, .int x5), (6, .int x6), (7, .int 0)]) rfl ?_
                  exact bX5_feed_72 X  _ _ _ _ _ _ _ _ _  h
                · replace h := gF c h
                  refine g_bipush X (-4) dX5_feed_66 (by decide) ?_
                  exact g_iretR X h dX5_feed_68
              · replace h := gTr c h
                refine g_bipush X (-2) dX5_feed_48 (by decide) ?_
                exact g_iretR X h dX5_feed_50

theorem mX5_feed {l : Launch} {D : va_G} {cA : Nat → ClassId} {r : Nat → Nat} {v : gV} {x1 : Int32} {x2 : Int32} {x3 : Int32} {x4 : Int32} {x5 : Int32} {x6 : Int32} {xr : Int32} {v' : gV} (h : fX5_feed v x1 x2 x3 x4 x5 x6 = some (xr, v')) : Ct l D (tysC cA) (shC cA r) 50 r (ZC r) yX5_feed cX5_feed 8 (some .int) rmX5_feed [.ref (r 0), .int x1, .int x2, .int x3, .int x4, .int x5, .int x6] v (some (.int xr)) v' := ct_of plX5 ZC_ok (Nat.le_of_ble_eq_true rfl) rfl (fun _ X => bX5_feed_0 X v x1 x2 x3 x4 x5 x6 h)

def rmX5_textAt : Room := { frames := 0, cells := 0, slots := 0, locals := 0 }

set_option maxHeartbeats 4000000 in
set_option maxRecDepth 100000 in
theorem bX5_textAt_0 {l : Launch} {D : va_G} {cA : Nat → ClassId} {r : Nat → Nat} {G : gG} {xr : Option Nat} {v' : gV} (X : XC l D cA r RX5 cX5_textAt 2 (some (.object "ThreeEmpties$Text")) rmX5_textAt (some (va_rf (xr.map (fun t => r (31 + t))))) v' G) (v : gV) (x1 : Int32) (h : fX5_textAt v x1 = some (xr, v')) : G v [(0, .ref (r 0)), (1, .int x1)] 0 [] := by
  unfold fX5_textAt at h
  refine g_iload_n X dX5_textAt_0 rfl 1 rfl ?_
  refine g_if_lt X 22 dX5_textAt_1 (by decide) (fun c => ?_) (fun c => ?_)
  · replace h := gTr c h
    refine g_null X dX5_textAt_22 ?_
    exact g_aretN (f := fun t => r (31 + t)) X h dX5_textAt_23
  · replace h := gF c h
    refine g_iload_n X dX5_textAt_4 rfl 1 rfl ?_
    refine g_aload_n X dX5_textAt_5 rfl 0 rfl ?_
    refine g_get X fl5_37 hNC_0 (shC_0 _) rfl dX5_textAt_6 ?_
    refine g_alen X (t0 := 1) 6 hNC_6 (shC_6 _) rfl rfl dX5_textAt_9 ?_
    refine g_icmp_ge X 22 dX5_textAt_10 (by decide) (fun c => ?_) (fun c => ?_)
    · replace h := gTr c h
      refine g_null X dX5_textAt_22 ?_
      exact g_aretN (f := fun t => r (31 + t)) X h dX5_textAt_23
    · replace h := gF c h
      refine g_aload_n X dX5_textAt_13 rfl 0 rfl ?_
      refine g_get X fl5_37 hNC_0 (shC_0 _) rfl dX5_textAt_14 ?_
      refine g_iload_n X dX5_textAt_17 rfl 1 rfl ?_
      obtain ⟨c1, h⟩ := gGd h
      refine g_aald X (b := r (31 + x1.toNatClampNeg)) (t0 := 1) hNC_6 (shC_6 _) rfl rfl (gin_in c1) rfl dX5_textAt_18 ?_
      refine g_goto X 23 dX5_textAt_19 (by decide) ?_
      exact g_aretS (f := fun t => r (31 + t)) X h dX5_textAt_23

theorem mX5_textAt {l : Launch} {D : va_G} {cA : Nat → ClassId} {r : Nat → Nat} {v : gV} {x1 : Int32} {xr : Option Nat} {v' : gV} (h : fX5_textAt v x1 = some (xr, v')) : Ct l D (tysC cA) (shC cA r) 50 r (ZC r) yX5_textAt cX5_textAt 2 (some (.object "ThreeEmpties$Text")) rmX5_textAt [.ref (r 0), .int x1] v (some (va_rf (xr.map (fun t => r (31 + t))))) v' := ct_of plX5 ZC_ok (Nat.le_of_ble_eq_true rfl) rfl (fun _ X => bX5_textAt_0 X v x1 h)

def rmX5_text : Room := { frames := 86, cells := 0, slots := 0, locals := 4485 }

set_option maxHeartbeats 4000000 in
set_option maxRecDepth 100000 in
theorem bX5_text_0 {l : Launch} {D : va_G} {cA : Nat → ClassId} {r : Nat → Nat} {G : gG} {xr : Int32} {v' : gV} (X : XC l D cA r RX5 cX5_text 3 (some .int) rmX5_text (some (.int xr)) v' G) (v : gV)  (h : fX5_text v  = some (xr, v')) : G v [(0, .ref (r 0))] 0 [] := by
  unfold fX5_text at h
  refine g_aload_n X dX5_text_0 rfl 0 rfl ?_
  refine g_aload_n X dX5_text_1 rfl 0 rfl ?_
  refine g_get X fl5_62 hNC_0 (shC_0 _) rfl dX5_text_2 ?_
  obtain ⟨y1, v2, hc3, h⟩ := gB_inv h
  replace h := gOpt h
  rcases h with ⟨et, h⟩ | ⟨t4, ht4, et, h⟩
  · subst et
    refine g_callV X (st := []) (st' := [va_rf none]) kcX5_textAt kvX5_textAt kl5_85 (⟨rfl, rfl, by decide, by decide⟩) (mX5_textAt hc3) hNC_0 (shC_0 _) rfl rfl rfl (Nat.le_of_ble_eq_true rfl) rfl dX5_text_5 ?_
    refine g_astore_nQ X (ls' := [(1, va_rf none), (0, .ref (r 0))]) dX5_text_8 rfl (by decide) rfl ?_
    refine g_aload_nQ X (a := none) dX5_text_9 rfl 0 rfl ?_
    refine g_ifnonnullQ (a := none) X 16 dX5_text_10 (by decide) (fun _ => ?_) (fun _ q => by cases q)
    refine g_bipush X (-4) dX5_text_13 (by decide) ?_
    exact g_iretR X h dX5_text_15
  · subst et
    refine g_callV X (st := []) (st' := [.ref (r (31 + t4))]) kcX5_textAt kvX5_textAt kl5_85 (⟨rfl, rfl, by decide, by decide⟩) (mX5_textAt hc3) hNC_0 (shC_0 _) rfl rfl rfl (Nat.le_of_ble_eq_true rfl) rfl dX5_text_5 ?_
    refine g_astore_n X (ls' := [(1, .ref (r (31 + t4))), (0, .ref (r 0))]) dX5_text_8 rfl (by decide) rfl ?_
    refine g_aload_n X dX5_text_9 rfl 0 rfl ?_
    refine g_ifnonnullQ (a := some (r (31 + t4))) X 16 dX5_text_10 (by decide) (fun q => by cases q) (fun _ _ => ?_)
    refine g_aload_n X dX5_text_16 rfl 1 rfl ?_
    refine g_get X fl5_31 hNC_0 (shC_0 _) rfl dX5_text_17 ?_
    refine g_aload_n X dX5_text_20 rfl 0 rfl ?_
    obtain ⟨y5, v6, hc7, h⟩ := gB_inv h
    refine g_callV X (st := []) (st' := [.int y5]) kcX3_readInto kvX3_readInto kl5_89 (⟨rfl, rfl, by decide, by decide⟩) (mX3_readInto ht4 hc7) hNC_5 (shC_5 _) rfl rfl rfl (Nat.le_of_ble_eq_true rfl) rfl dX5_text_21 ?_
    refine g_istore_n X (ls' := [(2, .int y5), (1, .ref (r (31 + t4))), (0, .ref (r 0))]) dX5_text_24 rfl (by decide) rfl ?_
    refine g_aload_n X dX5_text_25 rfl 2 rfl ?_
    refine g_get X fl5_31 hNC_0 (shC_0 _) rfl dX5_text_26 ?_
    refine g_iconst X 0 dX5_text_29 (by decide) ?_
    refine g_put X (fsC3 r) fp5_76 hNC_5 (shC_5) (fun _ => rfl) (Nat.le_of_ble_eq_true rfl) dX5_text_30 ?_
    refine g_iload_n X dX5_text_33 rfl 0 rfl ?_
    refine g_if_lt X 42 dX5_text_34 (by decide) (fun c => ?_) (fun c => ?_)
    · replace h := gTr c h
      refine g_aload_n X dX5_text_42 rfl 2 rfl ?_
      refine g_dup X dX5_text_43 rfl ?_
      refine g_get X fl5_62 hNC_0 (shC_0 _) rfl dX5_text_44 ?_
      refine g_iconst X 1 dX5_text_47 (by decide) ?_
      refine g_iadd X dX5_text_48 ?_
      refine g_put X (fsC5 r) fp5_62 hNC_0 (shC_0) (fun _ => rfl) (Nat.le_of_ble_eq_true rfl) dX5_text_49 ?_
      refine g_aload_n X dX5_text_52 rfl 2 rfl ?_
      refine g_get X fl5_62 hNC_0 (shC_0 _) rfl dX5_text_53 ?_
      refine g_iconst X 1 dX5_text_56 (by decide) ?_
      refine g_isub X dX5_text_57 ?_
      exact g_iretR X h dX5_text_58
    · replace h := gF c h
      refine g_bipush X (-100) dX5_text_37 (by decide) ?_
      refine g_iload_n X dX5_text_39 rfl 0 rfl ?_
      refine g_isub X dX5_text_40 ?_
      exact g_iretR X h dX5_text_41

theorem mX5_text {l : Launch} {D : va_G} {cA : Nat → ClassId} {r : Nat → Nat} {v : gV}  {xr : Int32} {v' : gV} (h : fX5_text v  = some (xr, v')) : Ct l D (tysC cA) (shC cA r) 50 r (ZC r) yX5_text cX5_text 3 (some .int) rmX5_text [.ref (r 0)] v (some (.int xr)) v' := ct_of plX5 ZC_ok (Nat.le_of_ble_eq_true rfl) rfl (fun _ X => bX5_text_0 X v  h)

def rmX5_force : Room := { frames := 0, cells := 0, slots := 0, locals := 0 }

set_option maxHeartbeats 4000000 in
set_option maxRecDepth 100000 in
theorem bX5_force_0 {l : Launch} {D : va_G} {cA : Nat → ClassId} {r : Nat → Nat} {G : gG} {xr : Int32} {v' : gV} (X : XC l D cA r RX5 cX5_force 3 (some .int) rmX5_force (some (.int xr)) v' G) (v : gV) (x1 : Int32) (h : fX5_force v x1 = some (xr, v')) : G v [(0, .ref (r 0)), (1, .int x1)] 0 [] := by
  unfold fX5_force at h
  refine g_iload_n X dX5_force_0 rfl 1 rfl ?_
  refine g_if_lt X 12 dX5_force_1 (by decide) (fun c => ?_) (fun c => ?_)
  · replace h := gTr c h
    refine g_bipush X (-2) dX5_force_12 (by decide) ?_
    exact g_iretR X h dX5_force_14
  · replace h := gF c h
    refine g_iload_n X dX5_force_4 rfl 1 rfl ?_
    refine g_aload_n X dX5_force_5 rfl 0 rfl ?_
    refine g_get X fl5_62 hNC_0 (shC_0 _) rfl dX5_force_6 ?_
    refine g_icmp_lt X 15 dX5_force_9 (by decide) (fun c => ?_) (fun c => ?_)
    · replace h := gTr c h
      refine g_aload_n X dX5_force_15 rfl 0 rfl ?_
      refine g_get X fl5_73 hNC_0 (shC_0 _) rfl dX5_force_16 ?_
      refine g_istore_n X (ls' := [(2, .int (v 0 9)), (0, .ref (r 0)), (1, .int x1)]) dX5_force_19 rfl (by decide) rfl ?_
      refine g_aload_n X dX5_force_20 rfl 1 rfl ?_
      refine g_iload_n X dX5_force_21 rfl 2 rfl ?_
      refine g_put X (fsC5 r) fp5_73 hNC_0 (shC_0) (fun _ => rfl) (Nat.le_of_ble_eq_true rfl) dX5_force_22 ?_
      refine g_iload_n X dX5_force_25 rfl 0 rfl ?_
      exact g_iretR X h dX5_force_26
    · replace h := gF c h
      refine g_bipush X (-2) dX5_force_12 (by decide) ?_
      exact g_iretR X h dX5_force_14

theorem mX5_force {l : Launch} {D : va_G} {cA : Nat → ClassId} {r : Nat → Nat} {v : gV} {x1 : Int32} {xr : Int32} {v' : gV} (h : fX5_force v x1 = some (xr, v')) : Ct l D (tysC cA) (shC cA r) 50 r (ZC r) yX5_force cX5_force 3 (some .int) rmX5_force [.ref (r 0), .int x1] v (some (.int xr)) v' := ct_of plX5 ZC_ok (Nat.le_of_ble_eq_true rfl) rfl (fun _ X => bX5_force_0 X v x1 h)

def rmX5_says : Room := { frames := 2, cells := 0, slots := 0, locals := 49 }

set_option maxHeartbeats 4000000 in
set_option maxRecDepth 100000 in
theorem bX5_says_0 {l : Launch} {D : va_G} {cA : Nat → ClassId} {r : Nat → Nat} {G : gG} {xr : Int32} {v' : gV} (X : XC l D cA r RX5 cX5_says 5 (some .int) rmX5_says (some (.int xr)) v' G) (v : gV) (x1 : Int32) (x2 : Int32) (a3 : Nat) (ha3 : gRow a3) (h : fX5_says v x1 x2 a3 = some (xr, v')) : G v [(0, .ref (r 0)), (1, .int x1), (2, .int x2), (3, .ref (r a3))] 0 [] := by
  unfold fX5_says at h
  refine g_aload_n X dX5_says_0 rfl 0 rfl ?_
  refine g_iload_n X dX5_says_1 rfl 1 rfl ?_
  obtain ⟨y1, v2, hc3, h⟩ := gB_inv h
  replace h := gOpt h
  rcases h with ⟨et, h⟩ | ⟨t4, ht4, et, h⟩
  · subst et
    refine g_callV X (st := []) (st' := [va_rf none]) kcX5_textAt kvX5_textAt kl5_85 (⟨rfl, rfl, by decide, by decide⟩) (mX5_textAt hc3) hNC_0 (shC_0 _) rfl rfl rfl (Nat.le_of_ble_eq_true rfl) rfl dX5_says_2 ?_
    refine g_astoreQ X (ls' := [(4, va_rf none), (0, .ref (r 0)), (1, .int x1), (2, .int x2), (3, .ref (r a3))]) dX5_says_5 (by decide) rfl ?_
    refine g_aloadQ X (a := none) dX5_says_7 0 rfl ?_
    refine g_ifnullQ (a := none) X 24 dX5_says_9 (by decide) (fun _ => ?_) (fun _ q => by cases q)
    refine g_iconst X 0 dX5_says_24 (by decide) ?_
    exact g_iretR X h dX5_says_25
  · subst et
    refine g_callV X (st := []) (st' := [.ref (r (31 + t4))]) kcX5_textAt kvX5_textAt kl5_85 (⟨rfl, rfl, by decide, by decide⟩) (mX5_textAt hc3) hNC_0 (shC_0 _) rfl rfl rfl (Nat.le_of_ble_eq_true rfl) rfl dX5_says_2 ?_
    refine g_astore X (ls' := [(4, .ref (r (31 + t4))), (0, .ref (r 0)), (1, .int x1), (2, .int x2), (3, .ref (r a3))]) dX5_says_5 (by decide) rfl ?_
    refine g_aload X dX5_says_7 0 rfl ?_
    refine g_ifnullQ (a := some (r (31 + t4))) X 24 dX5_says_9 (by decide) (fun q => by cases q) (fun _ _ => ?_)
    refine g_iload_n X dX5_says_12 rfl 3 rfl ?_
    refine g_if_lt X 24 dX5_says_13 (by decide) (fun c => ?_) (fun c => ?_)
    · replace h := gTr c h
      refine g_iconst X 0 dX5_says_24 (by decide) ?_
      exact g_iretR X h dX5_says_25
    · replace h := gF c h
      refine g_iload_n X dX5_says_16 rfl 3 rfl ?_
      refine g_gets X zZ1 ks5_97 dX5_says_17 ?_
      refine g_alenT X zT1 3 rfl dX5_says_20 ?_
      refine g_icmp_lt X 26 dX5_says_21 (by decide) (fun c => ?_) (fun c => ?_)
      · replace h := gTr c h
        refine g_iconst X 0 dX5_says_26 (by decide) ?_
        refine g_gets X zZ1 ks5_97 dX5_says_27 ?_
        refine g_iload_n X dX5_says_30 rfl 3 rfl ?_
        obtain ⟨c, h⟩ := gGd h
        refine g_ialdT X zT1 (gin_in c) dX5_says_31 ?_
        refine g_aload X dX5_says_32 0 rfl ?_
        refine g_iload_n X dX5_says_34 rfl 3 rfl ?_
        refine g_aload_n X dX5_says_35 rfl 4 rfl ?_
        obtain ⟨y5, v6, hc7, h⟩ := gB_inv h
        refine g_callV X (st := [.int (gS1 x2.toNatClampNeg), .int 0]) (st' := [.int y5, .int (gS1 x2.toNatClampNeg), .int 0]) kcX4_reckon kvX4_reckon kl5_100 (⟨rfl, rfl, by decide, by decide⟩) (mX4_reckon ht4 ha3 hc7) (shC_text_lt ht4) (shC_text ht4 _) rfl rfl rfl (Nat.le_of_ble_eq_true rfl) rfl dX5_says_36 ?_
        refine g_min X km5_104 kmath_min.1 kmath_min.2.1 kmath_min.2.2 (by decide) (by decide) (Nat.le_of_ble_eq_true rfl) dX5_says_39 ?_
        refine g_max X km5_110 kmath_max.1 kmath_max.2.1 kmath_max.2.2 (by decide) (by decide) (Nat.le_of_ble_eq_true rfl) dX5_says_42 ?_
        exact g_iretR X h dX5_says_45
      · replace h := gF c h
        refine g_iconst X 0 dX5_says_24 (by decide) ?_
        exact g_iretR X h dX5_says_25

theorem mX5_says {l : Launch} {D : va_G} {cA : Nat → ClassId} {r : Nat → Nat} {v : gV} {x1 : Int32} {x2 : Int32} {a3 : Nat} {xr : Int32} {v' : gV} (ha3 : gRow a3) (h : fX5_says v x1 x2 a3 = some (xr, v')) : Ct l D (tysC cA) (shC cA r) 50 r (ZC r) yX5_says cX5_says 5 (some .int) rmX5_says [.ref (r 0), .int x1, .int x2, .ref (r a3)] v (some (.int xr)) v' := ct_of plX5 ZC_ok (Nat.le_of_ble_eq_true rfl) rfl (fun _ X => bX5_says_0 X v x1 x2 a3 ha3 h)

def rmX5_asks : Room := { frames := 3, cells := 0, slots := 0, locals := 73 }

set_option maxHeartbeats 4000000 in
set_option maxRecDepth 100000 in
theorem bX5_asks_0 {l : Launch} {D : va_G} {cA : Nat → ClassId} {r : Nat → Nat} {G : gG} {xr : Int32} {v' : gV} (X : XC l D cA r RX5 cX5_asks 2 (some .int) rmX5_asks (some (.int xr)) v' G) (v : gV) (x1 : Int32) (h : fX5_asks v x1 = some (xr, v')) : G v [(0, .ref (r 0)), (1, .int x1)] 0 [] := by
  unfold fX5_asks at h
  refine g_iload_n X dX5_asks_0 rfl 1 rfl ?_
  refine g_if_lt X 9 dX5_asks_1 (by decide) (fun c => ?_) (fun c => ?_)
  · replace h := gTr c h
    refine g_bipush X (-2) dX5_asks_9 (by decide) ?_
    exact g_iretR X h dX5_asks_11
  · replace h := gF c h
    refine g_iload_n X dX5_asks_4 rfl 1 rfl ?_
    refine g_iconst X 3 dX5_asks_5 (by decide) ?_
    refine g_icmp_lt X 12 dX5_asks_6 (by decide) (fun c => ?_) (fun c => ?_)
    · replace h := gTr c h
      refine g_aload_n X dX5_asks_12 rfl 0 rfl ?_
      refine g_aload_n X dX5_asks_13 rfl 0 rfl ?_
      refine g_get X fl5_73 hNC_0 (shC_0 _) rfl dX5_asks_14 ?_
      refine g_iload_n X dX5_asks_17 rfl 1 rfl ?_
      refine g_aload_n X dX5_asks_18 rfl 0 rfl ?_
      refine g_get X fl5_9 hNC_0 (shC_0 _) rfl dX5_asks_19 ?_
      obtain ⟨y1, v2, hc3, h⟩ := gB_inv h
      refine g_callV X (st := []) (st' := [.int y1]) kcX5_says kvX5_says kl5_93 (⟨rfl, rfl, by decide, by decide⟩) (mX5_says gRow_1 hc3) hNC_0 (shC_0 _) rfl rfl rfl (Nat.le_of_ble_eq_true rfl) rfl dX5_asks_22 ?_
      exact g_iretR X h dX5_asks_25
    · replace h := gF c h
      refine g_bipush X (-2) dX5_asks_9 (by decide) ?_
      exact g_iretR X h dX5_asks_11

theorem mX5_asks {l : Launch} {D : va_G} {cA : Nat → ClassId} {r : Nat → Nat} {v : gV} {x1 : Int32} {xr : Int32} {v' : gV} (h : fX5_asks v x1 = some (xr, v')) : Ct l D (tysC cA) (shC cA r) 50 r (ZC r) yX5_asks cX5_asks 2 (some .int) rmX5_asks [.ref (r 0), .int x1] v (some (.int xr)) v' := ct_of plX5 ZC_ok (Nat.le_of_ble_eq_true rfl) rfl (fun _ X => bX5_asks_0 X v x1 h)

def rmX5_rate : Room := { frames := 2, cells := 0, slots := 0, locals := 43 }

set_option maxHeartbeats 4000000 in
set_option maxRecDepth 100000 in
theorem bX5_rate_0 {l : Launch} {D : va_G} {cA : Nat → ClassId} {r : Nat → Nat} {G : gG} {xr : Int32} {v' : gV} (X : XC l D cA r RX5 cX5_rate 4 (some .int) rmX5_rate (some (.int xr)) v' G) (v : gV) (x1 : Int32) (x2 : Int32) (x3 : Int32) (h : fX5_rate v x1 x2 x3 = some (xr, v')) : G v [(0, .ref (r 0)), (1, .int x1), (2, .int x2), (3, .int x3)] 0 [] := by
  unfold fX5_rate at h
  refine g_aload_n X dX5_rate_0 rfl 0 rfl ?_
  refine g_get X fl5_24 hNC_0 (shC_0 _) rfl dX5_rate_1 ?_
  refine g_iload_n X dX5_rate_4 rfl 1 rfl ?_
  refine g_iload_n X dX5_rate_5 rfl 2 rfl ?_
  refine g_iload_n X dX5_rate_6 rfl 3 rfl ?_
  obtain ⟨y1, v2, hc3, h⟩ := gB_inv h
  refine g_callV X (st := []) (st' := [.int y1]) kcX1_put kvX1_put kl5_113 (⟨rfl, rfl, by decide, by decide⟩) (mX1_put hc3) hNC_4 (shC_4 _) rfl rfl rfl (Nat.le_of_ble_eq_true rfl) rfl dX5_rate_7 ?_
  exact g_iretR X h dX5_rate_10

theorem mX5_rate {l : Launch} {D : va_G} {cA : Nat → ClassId} {r : Nat → Nat} {v : gV} {x1 : Int32} {x2 : Int32} {x3 : Int32} {xr : Int32} {v' : gV} (h : fX5_rate v x1 x2 x3 = some (xr, v')) : Ct l D (tysC cA) (shC cA r) 50 r (ZC r) yX5_rate cX5_rate 4 (some .int) rmX5_rate [.ref (r 0), .int x1, .int x2, .int x3] v (some (.int xr)) v' := ct_of plX5 ZC_ok (Nat.le_of_ble_eq_true rfl) rfl (fun _ X => bX5_rate_0 X v x1 x2 x3 h)

def rmX5_change : Room := { frames := 1, cells := 0, slots := 0, locals := 21 }

set_option maxHeartbeats 4000000 in
set_option maxRecDepth 100000 in
theorem bX5_change_0 {l : Launch} {D : va_G} {cA : Nat → ClassId} {r : Nat → Nat} {G : gG} {xr : Int32} {v' : gV} (X : XC l D cA r RX5 cX5_change 5 (some .int) rmX5_change (some (.int xr)) v' G) (v : gV) (x1 : Int32) (x2 : Int32) (x3 : Int32) (h : fX5_change v x1 x2 x3 = some (xr, v')) : G v [(0, .ref (r 0)), (1, .int x1), (2, .int x2), (3, .int x3)] 0 [] := by
  unfold fX5_change at h
  refine g_aload_n X dX5_change_0 rfl 0 rfl ?_
  refine g_get X fl5_24 hNC_0 (shC_0 _) rfl dX5_change_1 ?_
  refine g_iload_n X dX5_change_4 rfl 1 rfl ?_
  obtain ⟨y1, v2, hc3, h⟩ := gB_inv h
  refine g_callV X (st := []) (st' := [.int y1]) kcX1_has kvX1_has kl5_117 (⟨rfl, rfl, by decide, by decide⟩) (mX1_has hc3) hNC_4 (shC_4 _) rfl rfl rfl (Nat.le_of_ble_eq_true rfl) rfl dX5_change_5 ?_
  refine g_if_ne X 14 dX5_change_8 (by decide) (fun c => ?_) (fun c => ?_)
  · replace h := gF c h
    refine g_iload_n X dX5_change_14 rfl 2 rfl ?_
    obtain ⟨y4, v5, hc6, h⟩ := gB_inv h
    refine g_callS X (st := []) (st' := [.int y4]) kcX1_isKind ktX1_isKind kl5_120 (⟨rfl, rfl, by decide, by decide⟩) (mX1_isKind hc6) rfl rfl (Nat.le_of_ble_eq_true rfl) rfl dX5_change_15 ?_
    refine g_if_eq X 28 dX5_change_18 (by decide) (fun c => ?_) (fun c => ?_)
    · replace h := gTr c h
      refine g_bipush X (-7) dX5_change_28 (by decide) ?_
      exact g_iretR X h dX5_change_30
    · replace h := gF c h
      refine g_iload_n X dX5_change_21 rfl 3 rfl ?_
      obtain ⟨y7, v8, hc9, h⟩ := gB_inv h
      refine g_callS X (st := []) (st' := [.int y7]) kcX1_isMore ktX1_isMore kl5_123 (⟨rfl, rfl, by decide, by decide⟩) (mX1_isMore hc9) rfl rfl (Nat.le_of_ble_eq_true rfl) rfl dX5_change_22 ?_
      refine g_if_ne X 31 dX5_change_25 (by decide) (fun c => ?_) (fun c => ?_)
      · replace h := gF c h
        refine g_aload_n X dX5_change_31 rfl 0 rfl ?_
        refine g_get X fl5_24 hNC_0 (shC_0 _) rfl dX5_change_32 ?_
        refine g_get X fl5_126 hNC_4 (shC_4 _) rfl dX5_change_35 ?_
        refine g_iload_n X dX5_change_38 rfl 1 rfl ?_
        obtain ⟨c, h⟩ := gGd h
        refine g_iald X hNC_9 (shC_9 _) rfl (gin_in c) dX5_change_39 ?_
        refine g_istore X (ls' := [(4, .int (v8 9 x1.toNatClampNeg)), (0, .ref (r 0)), (1, .int x1), (2, .int x2), (3, .int x3)]) dX5_change_40 (by decide) rfl ?_
        refine g_aload_n X dX5_change_42 rfl 1 rfl ?_
        refine g_get X fl5_24 hNC_0 (shC_0 _) rfl dX5_change_43 ?_
        refine g_get X fl5_126 hNC_4 (shC_4 _) rfl dX5_change_46 ?_
        refine g_iload_n X dX5_change_49 rfl 2 rfl ?_
        refine g_iload_n X dX5_change_50 rfl 3 rfl ?_
        obtain ⟨c, h⟩ := gGd h
        refine g_iast X hNC_9 (shC_9) rfl (gin_in c) dX5_change_51 ?_
        refine g_aload_n X dX5_change_52 rfl 1 rfl ?_
        refine g_get X fl5_24 hNC_0 (shC_0 _) rfl dX5_change_53 ?_
        refine g_get X fl5_129 hNC_4 (shC_4 _) rfl dX5_change_56 ?_
        refine g_iload_n X dX5_change_59 rfl 2 rfl ?_
        refine g_iload_n X dX5_change_60 rfl 4 rfl ?_
        obtain ⟨c, h⟩ := gGd h
        refine g_iast X hNC_12 (shC_12) rfl (gin_in c) dX5_change_61 ?_
        refine g_iload X dX5_change_62 0 rfl ?_
        exact g_iretR X h dX5_change_64
      · replace h := gTr c h
        refine g_bipush X (-7) dX5_change_28 (by decide) ?_
        exact g_iretR X h dX5_change_30
  · replace h := gTr c h
    refine g_bipush X (-5) dX5_change_11 (by decide) ?_
    exact g_iretR X h dX5_change_13

theorem mX5_change {l : Launch} {D : va_G} {cA : Nat → ClassId} {r : Nat → Nat} {v : gV} {x1 : Int32} {x2 : Int32} {x3 : Int32} {xr : Int32} {v' : gV} (h : fX5_change v x1 x2 x3 = some (xr, v')) : Ct l D (tysC cA) (shC cA r) 50 r (ZC r) yX5_change cX5_change 5 (some .int) rmX5_change [.ref (r 0), .int x1, .int x2, .int x3] v (some (.int xr)) v' := ct_of plX5 ZC_ok (Nat.le_of_ble_eq_true rfl) rfl (fun _ X => bX5_change_0 X v x1 x2 x3 h)

def rmX5_told : Room := { frames := 2, cells := 0, slots := 0, locals := 43 }

set_option maxHeartbeats 4000000 in
set_option maxRecDepth 100000 in
theorem bX5_told_0 {l : Launch} {D : va_G} {cA : Nat → ClassId} {r : Nat → Nat} {G : gG} {xr : Int32} {v' : gV} (X : XC l D cA r RX5 cX5_told 3 (some .int) rmX5_told (some (.int xr)) v' G) (v : gV) (x1 : Int32) (x2 : Int32) (h : fX5_told v x1 x2 = some (xr, v')) : G v [(0, .ref (r 0)), (1, .int x1), (2, .int x2)] 0 [] := by
  unfold fX5_told at h
  refine g_aload_n X dX5_told_0 rfl 0 rfl ?_
  refine g_get X fl5_24 hNC_0 (shC_0 _) rfl dX5_told_1 ?_
  refine g_iload_n X dX5_told_4 rfl 1 rfl ?_
  obtain ⟨y1, v2, hc3, h⟩ := gB_inv h
  refine g_callV X (st := []) (st' := [.int y1]) kcX1_has kvX1_has kl5_117 (⟨rfl, rfl, by decide, by decide⟩) (mX1_has hc3) hNC_4 (shC_4 _) rfl rfl rfl (Nat.le_of_ble_eq_true rfl) rfl dX5_told_5 ?_
  refine g_if_ne X 14 dX5_told_8 (by decide) (fun c => ?_) (fun c => ?_)
  · replace h := gF c h
    refine g_iload_n X dX5_told_14 rfl 2 rfl ?_
    by_cases c : x2 = 0
    · replace h := gTr c h
      refine g_tableIn X 56 dX5_told_15 (by rw [c]; decide) (by rw [c]; decide) (by rw [c]; rfl) (by decide) ?_
      refine g_aload_n X dX5_told_56 rfl 0 rfl ?_
      refine g_get X fl5_24 hNC_0 (shC_0 _) rfl dX5_told_57 ?_
      refine g_get X fl5_126 hNC_4 (shC_4 _) rfl dX5_told_60 ?_
      refine g_iload_n X dX5_told_63 rfl 1 rfl ?_
      obtain ⟨c, h⟩ := gGd h
      refine g_iald X hNC_9 (shC_9 _) rfl (gin_in c) dX5_told_64 ?_
      exact g_iretR X h dX5_told_65
    · replace h := gF c h
      have n0 : (x2).toInt ≠ 0 := fun q => c (Int32.toInt_inj.mp (q.trans (by decide)))
      clear c
      by_cases c : x2 = 1
      · replace h := gTr c h
        refine g_tableIn X 66 dX5_told_15 (by rw [c]; decide) (by rw [c]; decide) (by rw [c]; rfl) (by decide) ?_
        refine g_aload_n X dX5_told_66 rfl 0 rfl ?_
        refine g_get X fl5_24 hNC_0 (shC_0 _) rfl dX5_told_67 ?_
        refine g_get X fl5_132 hNC_4 (shC_4 _) rfl dX5_told_70 ?_
        refine g_iload_n X dX5_told_73 rfl 1 rfl ?_
        obtain ⟨c, h⟩ := gGd h
        refine g_iald X hNC_10 (shC_10 _) rfl (gin_in c) dX5_told_74 ?_
        exact g_iretR X h dX5_told_75
      · replace h := gF c h
        have n1 : (x2).toInt ≠ 1 := fun q => c (Int32.toInt_inj.mp (q.trans (by decide)))
        clear c
        by_cases c : x2 = 2
        · replace h := gTr c h
          refine g_tableIn X 76 dX5_told_15 (by rw [c]; decide) (by rw [c]; decide) (by rw [c]; rfl) (by decide) ?_
          refine g_aload_n X dX5_told_76 rfl 0 rfl ?_
          refine g_get X fl5_24 hNC_0 (shC_0 _) rfl dX5_told_77 ?_
          refine g_get X fl5_135 hNC_4 (shC_4 _) rfl dX5_told_80 ?_
          refine g_iload_n X dX5_told_83 rfl 1 rfl ?_
          obtain ⟨c, h⟩ := gGd h
          refine g_iald X hNC_11 (shC_11 _) rfl (gin_in c) dX5_told_84 ?_
          exact g_iretR X h dX5_told_85
        · replace h := gF c h
          have n2 : (x2).toInt ≠ 2 := fun q => c (Int32.toInt_inj.mp (q.trans (by decide)))
          clear c
          by_cases c : x2 = 3
          · replace h := gTr c h
            refine g_tableIn X 86 dX5_told_15 (by rw [c]; decide) (by rw [c]; decide) (by rw [c]; rfl) (by decide) ?_
            refine g_aload_n X dX5_told_86 rfl 0 rfl ?_
            refine g_get X fl5_24 hNC_0 (shC_0 _) rfl dX5_told_87 ?_
            refine g_get X fl5_129 hNC_4 (shC_4 _) rfl dX5_told_90 ?_
            refine g_iload_n X dX5_told_93 rfl 1 rfl ?_
            obtain ⟨c, h⟩ := gGd h
            refine g_iald X hNC_12 (shC_12 _) rfl (gin_in c) dX5_told_94 ?_
            exact g_iretR X h dX5_told_95
          · replace h := gF c h
            have n3 : (x2).toInt ≠ 3 := fun q => c (Int32.toInt_inj.mp (q.trans (by decide)))
            clear c
            by_cases c : x2 = 4
            · replace h := gTr c h
              refine g_tableIn X 96 dX5_told_15 (by rw [c]; decide) (by rw [c]; decide) (by rw [c]; rfl) (by decide) ?_
              refine g_aload_n X dX5_told_96 rfl 0 rfl ?_
              refine g_get X fl5_24 hNC_0 (shC_0 _) rfl dX5_told_97 ?_
              refine g_iload_n X dX5_told_100 rfl 1 rfl ?_
              refine g_aload_n X dX5_told_101 rfl 0 rfl ?_
              refine g_get X fl5_9 hNC_0 (shC_0 _) rfl dX5_told_102 ?_
              refine g_bipush X 6 dX5_told_105 (by decide) ?_
              refine g_ialdK X 6 hNC_1 (shC_1 _) rfl vin_6_7 dX5_told_107 ?_
              obtain ⟨y4, v5, hc6, h⟩ := gB_inv h
              refine g_callV X (st := []) (st' := [.int y4]) kcX1_takes kvX1_takes kl5_138 (⟨rfl, rfl, by decide, by decide⟩) (mX1_takes hc6) hNC_4 (shC_4 _) rfl rfl rfl (Nat.le_of_ble_eq_true rfl) rfl dX5_told_108 ?_
              exact g_iretR X h dX5_told_111
            · replace h := gF c h
              have n4 : (x2).toInt ≠ 4 := fun q => c (Int32.toInt_inj.mp (q.trans (by decide)))
              clear c
              by_cases c : x2 = 5
              · replace h := gTr c h
                refine g_tableIn X 112 dX5_told_15 (by rw [c]; decide) (by rw [c]; decide) (by rw [c]; rfl) (by decide) ?_
                refine g_aload_n X dX5_told_112 rfl 0 rfl ?_
                refine g_get X fl5_24 hNC_0 (shC_0 _) rfl dX5_told_113 ?_
                refine g_iload_n X dX5_told_116 rfl 1 rfl ?_
                refine g_aload_n X dX5_told_117 rfl 0 rfl ?_
                refine g_get X fl5_9 hNC_0 (shC_0 _) rfl dX5_told_118 ?_
                refine g_bipush X 6 dX5_told_121 (by decide) ?_
                refine g_ialdK X 6 hNC_1 (shC_1 _) rfl vin_6_7 dX5_told_123 ?_
                obtain ⟨y7, v8, hc9, h⟩ := gB_inv h
                refine g_callV X (st := []) (st' := [.int y7]) kcX1_gives kvX1_gives kl5_141 (⟨rfl, rfl, by decide, by decide⟩) (mX1_gives hc9) hNC_4 (shC_4 _) rfl rfl rfl (Nat.le_of_ble_eq_true rfl) rfl dX5_told_124 ?_
                exact g_iretR X h dX5_told_127
              · replace h := gF c h
                have n5 : (x2).toInt ≠ 5 := fun q => c (Int32.toInt_inj.mp (q.trans (by decide)))
                clear c
                by_cases c : x2 = 6
                · replace h := gTr c h
                  refine g_tableIn X 128 dX5_told_15 (by rw [c]; decide) (by rw [c]; decide) (by rw [c]; rfl) (by decide) ?_
                  refine g_aload_n X dX5_told_128 rfl 0 rfl ?_
                  refine g_get X fl5_24 hNC_0 (shC_0 _) rfl dX5_told_129 ?_
                  refine g_iload_n X dX5_told_132 rfl 1 rfl ?_
                  obtain ⟨y10, v11, hc12, h⟩ := gB_inv h
                  refine g_callV X (st := []) (st' := [.int y10]) kcX1_lends kvX1_lends kl5_144 (⟨rfl, rfl, by decide, by decide⟩) (mX1_lends hc12) hNC_4 (shC_4 _) rfl rfl rfl (Nat.le_of_ble_eq_true rfl) rfl dX5_told_133 ?_
                  exact g_iretR X h dX5_told_136
                · replace h := gF c h
                  have n6 : (x2).toInt ≠ 6 := fun q => c (Int32.toInt_inj.mp (q.trans (by decide)))
                  clear c
                  refine g_tableOut X 137 dX5_told_15 (by omega) (by decide) ?_
                  refine g_bipush X (-7) dX5_told_137 (by decide) ?_
                  exact g_iretR X h dX5_told_139
  · replace h := gTr c h
    refine g_bipush X (-5) dX5_told_11 (by decide) ?_
    exact g_iretR X h dX5_told_13

theorem mX5_told {l : Launch} {D : va_G} {cA : Nat → ClassId} {r : Nat → Nat} {v : gV} {x1 : Int32} {x2 : Int32} {xr : Int32} {v' : gV} (h : fX5_told v x1 x2 = some (xr, v')) : Ct l D (tysC cA) (shC cA r) 50 r (ZC r) yX5_told cX5_told 3 (some .int) rmX5_told [.ref (r 0), .int x1, .int x2] v (some (.int xr)) v' := ct_of plX5 ZC_ok (Nat.le_of_ble_eq_true rfl) rfl (fun _ X => bX5_told_0 X v x1 x2 h)

def rmX5_canDrink : Room := { frames := 0, cells := 0, slots := 0, locals := 0 }

set_option maxHeartbeats 4000000 in
set_option maxRecDepth 100000 in
theorem bX5_canDrink_0 {l : Launch} {D : va_G} {cA : Nat → ClassId} {r : Nat → Nat} {G : gG} {xr : Int32} {v' : gV} (X : XC l D cA r RX5 cX5_canDrink 1 (some .boolean) rmX5_canDrink (some (.int xr)) v' G) (v : gV) (a0 : Nat) (ha0 : gRow a0) (h : fX5_canDrink v a0 = some (xr, v')) : G v [(0, .ref (r a0))] 0 [] := by
  unfold fX5_canDrink at h
  refine g_aload_n X dX5_canDrink_0 rfl 0 rfl ?_
  refine g_iconst X 0 dX5_canDrink_1 (by decide) ?_
  refine g_ialdK X 0 (gRow_lt ha0) (shC_row ha0 _) rfl vin_0_7 dX5_canDrink_2 ?_
  refine g_if_le X 19 dX5_canDrink_3 (by decide) (fun c => ?_) (fun c => ?_)
  · replace h := gTr c h
    refine g_iconst X 0 dX5_canDrink_19 (by decide) ?_
    exact g_zretR X (Or.inl rfl) h dX5_canDrink_20
  · replace h := gF c h
    refine g_aload_n X dX5_canDrink_6 rfl 0 rfl ?_
    refine g_iconst X 5 dX5_canDrink_7 (by decide) ?_
    refine g_ialdK X 5 (gRow_lt ha0) (shC_row ha0 _) rfl vin_5_7 dX5_canDrink_8 ?_
    refine g_sipush X 999 dX5_canDrink_9 (by decide) ?_
    refine g_icmp_ge X 19 dX5_canDrink_12 (by decide) (fun c => ?_) (fun c => ?_)
    · replace h := gTr c h
      refine g_iconst X 0 dX5_canDrink_19 (by decide) ?_
      exact g_zretR X (Or.inl rfl) h dX5_canDrink_20
    · replace h := gF c h
      refine g_iconst X 1 dX5_canDrink_15 (by decide) ?_
      refine g_goto X 20 dX5_canDrink_16 (by decide) ?_
      exact g_zretR X (Or.inr rfl) h dX5_canDrink_20

theorem mX5_canDrink {l : Launch} {D : va_G} {cA : Nat → ClassId} {r : Nat → Nat} {v : gV} {a0 : Nat} {xr : Int32} {v' : gV} (ha0 : gRow a0) (h : fX5_canDrink v a0 = some (xr, v')) : Ct l D (tysC cA) (shC cA r) 50 r (ZC r) yX5_canDrink cX5_canDrink 1 (some .boolean) rmX5_canDrink [.ref (r a0)] v (some (.int xr)) v' := ct_of plX5 ZC_ok (Nat.le_of_ble_eq_true rfl) rfl (fun _ X => bX5_canDrink_0 X v a0 ha0 h)

def rmX5_canExchange : Room := { frames := 2, cells := 0, slots := 0, locals := 43 }

set_option maxHeartbeats 4000000 in
set_option maxRecDepth 100000 in
theorem bX5_canExchange_0 {l : Launch} {D : va_G} {cA : Nat → ClassId} {r : Nat → Nat} {G : gG} {xr : Int32} {v' : gV} (X : XC l D cA r RX5 cX5_canExchange 6 (some .boolean) rmX5_canExchange (some (.int xr)) v' G) (v : gV) (a1 : Nat) (x2 : Int32) (ha1 : gRow a1) (h : fX5_canExchange v a1 x2 = some (xr, v')) : G v [(0, .ref (r 0)), (1, .ref (r a1)), (2, .int x2)] 0 [] := by
  unfold fX5_canExchange at h
  refine g_aload_n X dX5_canExchange_0 rfl 0 rfl ?_
  refine g_get X fl5_24 hNC_0 (shC_0 _) rfl dX5_canExchange_1 ?_
  refine g_iload_n X dX5_canExchange_4 rfl 2 rfl ?_
  obtain ⟨y1, v2, hc3, h⟩ := gB_inv h
  refine g_callV X (st := []) (st' := [.int y1]) kcX1_has kvX1_has kl5_117 (⟨rfl, rfl, by decide, by decide⟩) (mX1_has hc3) hNC_4 (shC_4 _) rfl rfl rfl (Nat.le_of_ble_eq_true rfl) rfl dX5_canExchange_5 ?_
  refine g_if_ne X 13 dX5_canExchange_8 (by decide) (fun c => ?_) (fun c => ?_)
  · replace h := gF c h
    refine g_aload_n X dX5_canExchange_13 rfl 0 rfl ?_
    refine g_get X fl5_24 hNC_0 (shC_0 _) rfl dX5_canExchange_14 ?_
    refine g_iload_n X dX5_canExchange_17 rfl 2 rfl ?_
    refine g_aload_n X dX5_canExchange_18 rfl 1 rfl ?_
    refine g_bipush X 6 dX5_canExchange_19 (by decide) ?_
    refine g_ialdK X 6 (gRow_lt ha1) (shC_row ha1 _) rfl vin_6_7 dX5_canExchange_21 ?_
    obtain ⟨y4, v5, hc6, h⟩ := gB_inv h
    refine g_callV X (st := []) (st' := [.int y4]) kcX1_gives kvX1_gives kl5_141 (⟨rfl, rfl, by decide, by decide⟩) (mX1_gives hc6) hNC_4 (shC_4 _) rfl rfl rfl (Nat.le_of_ble_eq_true rfl) rfl dX5_canExchange_22 ?_
    refine g_istore_n X (ls' := [(3, .int y4), (0, .ref (r 0)), (1, .ref (r a1)), (2, .int x2)]) dX5_canExchange_25 rfl (by decide) rfl ?_
    refine g_iload_n X dX5_canExchange_26 rfl 0 rfl ?_
    refine g_if_eq X 41 dX5_canExchange_27 (by decide) (fun c => ?_) (fun c => ?_)
    · replace h := gTr c h
      refine g_iconst X 0 dX5_canExchange_41 (by decide) ?_
      exact g_zretR X (Or.inl rfl) h dX5_canExchange_42
    · replace h := gF c h
      refine g_aload_n X dX5_canExchange_30 rfl 2 rfl ?_
      refine g_iconst X 0 dX5_canExchange_31 (by decide) ?_
      refine g_ialdK X 0 (gRow_lt ha1) (shC_row ha1 _) rfl vin_0_7 dX5_canExchange_32 ?_
      refine g_iload_n X dX5_canExchange_33 rfl 0 rfl ?_
      refine g_iadd X dX5_canExchange_34 ?_
      refine g_sipush X 999 dX5_canExchange_35 (by decide) ?_
      refine g_icmp_le X 43 dX5_canExchange_38 (by decide) (fun c => ?_) (fun c => ?_)
      · replace h := gTr c h
        refine g_aload_n X dX5_canExchange_43 rfl 1 rfl ?_
        refine g_get X fl5_24 hNC_0 (shC_0 _) rfl dX5_canExchange_44 ?_
        refine g_get X fl5_132 hNC_4 (shC_4 _) rfl dX5_canExchange_47 ?_
        refine g_iload_n X dX5_canExchange_50 rfl 3 rfl ?_
        obtain ⟨c, h⟩ := gGd h
        refine g_iald X hNC_10 (shC_10 _) rfl (gin_in c) dX5_canExchange_51 ?_
        refine g_istore X (ls' := [(4, .int (v5 10 x2.toNatClampNeg)), (3, .int y4), (0, .ref (r 0)), (1, .ref (r a1)), (2, .int x2)]) dX5_canExchange_52 (by decide) rfl ?_
        refine g_iload X dX5_canExchange_54 0 rfl ?_
        refine g_iconst X 1 dX5_canExchange_56 (by decide) ?_
        refine g_icmp_lt X 66 dX5_canExchange_57 (by decide) (fun c => ?_) (fun c => ?_)
        · replace h := gTr c h
          refine g_iconst X 0 dX5_canExchange_66 (by decide) ?_
          exact g_zretR X (Or.inl rfl) h dX5_canExchange_67
        · replace h := gF c h
          refine g_iload X dX5_canExchange_60 0 rfl ?_
          refine g_iconst X 3 dX5_canExchange_62 (by decide) ?_
          refine g_icmp_le X 68 dX5_canExchange_63 (by decide) (fun c => ?_) (fun c => ?_)
          · replace h := gTr c h
            refine g_aload_n X dX5_canExchange_68 rfl 2 rfl ?_
            refine g_get X fl5_24 hNC_0 (shC_0 _) rfl dX5_canExchange_69 ?_
            refine g_iload_n X dX5_canExchange_72 rfl 4 rfl ?_
            refine g_aload_n X dX5_canExchange_73 rfl 3 rfl ?_
            refine g_bipush X 6 dX5_canExchange_74 (by decide) ?_
            refine g_ialdK X 6 (gRow_lt ha1) (shC_row ha1 _) rfl vin_6_7 dX5_canExchange_76 ?_
            obtain ⟨y7, v8, hc9, h⟩ := gB_inv h
            refine g_callV X (st := []) (st' := [.int y7]) kcX1_takes kvX1_takes kl5_138 (⟨rfl, rfl, by decide, by decide⟩) (mX1_takes hc9) hNC_4 (shC_4 _) rfl rfl rfl (Nat.le_of_ble_eq_true rfl) rfl dX5_canExchange_77 ?_
            refine g_aload_n X dX5_canExchange_80 rfl 3 rfl ?_
            refine g_iload X dX5_canExchange_81 0 rfl ?_
            obtain ⟨c, h⟩ := gGd h
            refine g_iald X (gRow_lt ha1) (shC_row ha1 _) rfl (gin_in c) dX5_canExchange_83 ?_
            refine g_isub X dX5_canExchange_84 ?_
            refine g_istore X (ls' := [(5, .int (y7 - (v8 a1 (v5 10 x2.toNatClampNeg).toNatClampNeg))), (4, .int (v5 10 x2.toNatClampNeg)), (3, .int y4), (0, .ref (r 0)), (1, .ref (r a1)), (2, .int x2)]) dX5_canExchange_85 (by decide) rfl ?_
            refine g_iload X dX5_canExchange_87 0 rfl ?_
            refine g_if_gt X 94 dX5_canExchange_89 (by decide) (fun c => ?_) (fun c => ?_)
            · replace h := gTr c h
              refine g_iload X dX5_canExchange_94 1 rfl ?_
              refine g_iconst X 1 dX5_canExchange_96 (by decide) ?_
              refine g_icmp_ne X 121 dX5_canExchange_97 (by decide) (fun c => ?_) (fun c => ?_)
              · replace h := gF c h
                refine g_iconst X 0 dX5_canExchange_121 (by decide) ?_
                exact g_zretR X (Or.inl rfl) h dX5_canExchange_122
              · replace h := gTr c h
                refine g_iload X dX5_canExchange_100 0 rfl ?_
                refine g_aload_n X dX5_canExchange_102 rfl 3 rfl ?_
                refine g_get X fl5_24 hNC_0 (shC_0 _) rfl dX5_canExchange_103 ?_
                refine g_iload_n X dX5_canExchange_106 rfl 5 rfl ?_
                obtain ⟨y10, v11, hc12, h⟩ := gB_inv h
                refine g_callV X (st := [.int (y7 - (v8 a1 (v5 10 x2.toNatClampNeg).toNatClampNeg))]) (st' := [.int y10, .int (y7 - (v8 a1 (v5 10 x2.toNatClampNeg).toNatClampNeg))]) kcX1_lends kvX1_lends kl5_144 (⟨rfl, rfl, by decide, by decide⟩) (mX1_lends hc12) hNC_4 (shC_4 _) rfl rfl rfl (Nat.le_of_ble_eq_true rfl) rfl dX5_canExchange_107 ?_
                refine g_aload_n X dX5_canExchange_110 rfl 4 rfl ?_
                refine g_iconst X 4 dX5_canExchange_111 (by decide) ?_
                refine g_ialdK X 4 (gRow_lt ha1) (shC_row ha1 _) rfl vin_4_7 dX5_canExchange_112 ?_
                refine g_isub X dX5_canExchange_113 ?_
                refine g_icmp_gt X 121 dX5_canExchange_114 (by decide) (fun c => ?_) (fun c => ?_)
                · replace h := gTr c h
                  refine g_iconst X 0 dX5_canExchange_121 (by decide) ?_
                  exact g_zretR X (Or.inl rfl) h dX5_canExchange_122
                · replace h := gF c h
                  refine g_iconst X 1 dX5_canExchange_117 (by decide) ?_
                  refine g_goto X 122 dX5_canExchange_118 (by decide) ?_
                  exact g_zretR X (Or.inr rfl) h dX5_canExchange_122
            · replace h := gF c h
              refine g_iconst X 1 dX5_canExchange_92 (by decide) ?_
              exact g_zretR X (Or.inr rfl) h dX5_canExchange_93
          · replace h := gF c h
            refine g_iconst X 0 dX5_canExchange_66 (by decide) ?_
            exact g_zretR X (Or.inl rfl) h dX5_canExchange_67
      · replace h := gF c h
        refine g_iconst X 0 dX5_canExchange_41 (by decide) ?_
        exact g_zretR X (Or.inl rfl) h dX5_canExchange_42
  · replace h := gTr c h
    refine g_iconst X 0 dX5_canExchange_11 (by decide) ?_
    exact g_zretR X (Or.inl rfl) h dX5_canExchange_12

theorem mX5_canExchange {l : Launch} {D : va_G} {cA : Nat → ClassId} {r : Nat → Nat} {v : gV} {a1 : Nat} {x2 : Int32} {xr : Int32} {v' : gV} (ha1 : gRow a1) (h : fX5_canExchange v a1 x2 = some (xr, v')) : Ct l D (tysC cA) (shC cA r) 50 r (ZC r) yX5_canExchange cX5_canExchange 6 (some .boolean) rmX5_canExchange [.ref (r 0), .ref (r a1), .int x2] v (some (.int xr)) v' := ct_of plX5 ZC_ok (Nat.le_of_ble_eq_true rfl) rfl (fun _ X => bX5_canExchange_0 X v a1 x2 ha1 h)

def rmX5_canMake : Room := { frames := 3, cells := 0, slots := 0, locals := 68 }

set_option maxHeartbeats 4000000 in
set_option maxRecDepth 100000 in
theorem bX5_canMake_0 {l : Launch} {D : va_G} {cA : Nat → ClassId} {r : Nat → Nat} {G : gG} {xr : Int32} {v' : gV} (X : XC l D cA r RX5 cX5_canMake 3 (some .boolean) rmX5_canMake (some (.int xr)) v' G) (v : gV) (a1 : Nat) (x2 : Int32) (ha1 : gRow a1) (h : fX5_canMake v a1 x2 = some (xr, v')) : G v [(0, .ref (r 0)), (1, .ref (r a1)), (2, .int x2)] 0 [] := by
  unfold fX5_canMake at h
  refine g_iload_n X dX5_canMake_0 rfl 2 rfl ?_
  refine g_if_ne X 11 dX5_canMake_1 (by decide) (fun c => ?_) (fun c => ?_)
  · replace h := gF c h
    refine g_aload_n X dX5_canMake_11 rfl 0 rfl ?_
    refine g_aload_n X dX5_canMake_12 rfl 1 rfl ?_
    refine g_iload_n X dX5_canMake_13 rfl 2 rfl ?_
    refine g_iconst X 1 dX5_canMake_14 (by decide) ?_
    refine g_isub X dX5_canMake_15 ?_
    obtain ⟨y1, v2, hc3, h⟩ := gB_inv h
    refine g_callV X (st := []) (st' := [.int y1]) kcX5_canExchange kvX5_canExchange kl5_190 (⟨rfl, rfl, by decide, by decide⟩) (mX5_canExchange ha1 hc3) hNC_0 (shC_0 _) rfl rfl rfl (Nat.le_of_ble_eq_true rfl) rfl dX5_canMake_16 ?_
    obtain ⟨c, h⟩ := gGd h
    exact g_zretR X c h dX5_canMake_19
  · replace h := gTr c h
    refine g_aload_n X dX5_canMake_4 rfl 1 rfl ?_
    obtain ⟨y4, v5, hc6, h⟩ := gB_inv h
    refine g_callS X (st := []) (st' := [.int y4]) kcX5_canDrink ktX5_canDrink kl5_186 (⟨rfl, rfl, by decide, by decide⟩) (mX5_canDrink ha1 hc6) rfl rfl (Nat.le_of_ble_eq_true rfl) rfl dX5_canMake_5 ?_
    refine g_goto X 19 dX5_canMake_8 (by decide) ?_
    obtain ⟨c, h⟩ := gGd h
    exact g_zretR X c h dX5_canMake_19

theorem mX5_canMake {l : Launch} {D : va_G} {cA : Nat → ClassId} {r : Nat → Nat} {v : gV} {a1 : Nat} {x2 : Int32} {xr : Int32} {v' : gV} (ha1 : gRow a1) (h : fX5_canMake v a1 x2 = some (xr, v')) : Ct l D (tysC cA) (shC cA r) 50 r (ZC r) yX5_canMake cX5_canMake 3 (some .boolean) rmX5_canMake [.ref (r 0), .ref (r a1), .int x2] v (some (.int xr)) v' := ct_of plX5 ZC_ok (Nat.le_of_ble_eq_true rfl) rfl (fun _ X => bX5_canMake_0 X v a1 x2 ha1 h)

def rmX5_isMove : Room := { frames := 1, cells := 0, slots := 0, locals := 21 }

set_option maxHeartbeats 4000000 in
set_option maxRecDepth 100000 in
theorem bX5_isMove_17 {l : Launch} {D : va_G} {cA : Nat → ClassId} {r : Nat → Nat} {G : gG} {xr : Int32} {v' : gV} (X : XC l D cA r RX5 cX5_isMove 2 (some .boolean) rmX5_isMove (some (.int xr)) v' G) (v : gV)  (h : fX5_isMove_17 v  = some (xr, v')) : G v [] 17 [] := by
  unfold fX5_isMove_17 at h
  refine g_iconst X 1 dX5_isMove_17 (by decide) ?_
  refine g_goto X 22 dX5_isMove_18 (by decide) ?_
  exact g_zretR X (Or.inr rfl) h dX5_isMove_22

set_option maxHeartbeats 4000000 in
set_option maxRecDepth 100000 in
theorem bX5_isMove_0 {l : Launch} {D : va_G} {cA : Nat → ClassId} {r : Nat → Nat} {G : gG} {xr : Int32} {v' : gV} (X : XC l D cA r RX5 cX5_isMove 2 (some .boolean) rmX5_isMove (some (.int xr)) v' G) (v : gV) (x1 : Int32) (h : fX5_isMove v x1 = some (xr, v')) : G v [(0, .ref (r 0)), (1, .int x1)] 0 [] := by
  unfold fX5_isMove at h
  refine g_iload_n X dX5_isMove_0 rfl 1 rfl ?_
  refine g_if_eq X 17 dX5_isMove_1 (by decide) (fun c => ?_) (fun c => ?_)
  · replace h := gTr c h
    refine g_sub X [] (ls' := []) rfl ?_
    exact bX5_isMove_17 X  _   h
  · replace h := gF c h
    refine g_aload_n X dX5_isMove_4 rfl 0 rfl ?_
    refine g_get X fl5_24 hNC_0 (shC_0 _) rfl dX5_isMove_5 ?_
    refine g_iload_n X dX5_isMove_8 rfl 1 rfl ?_
    refine g_iconst X 1 dX5_isMove_9 (by decide) ?_
    refine g_isub X dX5_isMove_10 ?_
    obtain ⟨y1, v2, hc3, h⟩ := gB_inv h
    refine g_callV X (st := []) (st' := [.int y1]) kcX1_has kvX1_has kl5_117 (⟨rfl, rfl, by decide, by decide⟩) (mX1_has hc3) hNC_4 (shC_4 _) rfl rfl rfl (Nat.le_of_ble_eq_true rfl) rfl dX5_isMove_11 ?_
    refine g_if_eq X 21 dX5_isMove_14 (by decide) (fun c => ?_) (fun c => ?_)
    · replace h := gTr c h
      refine g_iconst X 0 dX5_isMove_21 (by decide) ?_
      exact g_zretR X (Or.inl rfl) h dX5_isMove_22
    · replace h := gF c h
      refine g_sub X [] (ls' := []) rfl ?_
      exact bX5_isMove_17 X  _   h

theorem mX5_isMove {l : Launch} {D : va_G} {cA : Nat → ClassId} {r : Nat → Nat} {v : gV} {x1 : Int32} {xr : Int32} {v' : gV} (h : fX5_isMove v x1 = some (xr, v')) : Ct l D (tysC cA) (shC cA r) 50 r (ZC r) yX5_isMove cX5_isMove 2 (some .boolean) rmX5_isMove [.ref (r 0), .int x1] v (some (.int xr)) v' := ct_of plX5 ZC_ok (Nat.le_of_ble_eq_true rfl) rfl (fun _ X => bX5_isMove_0 X v x1 h)

def rmX5_can : Room := { frames := 4, cells := 0, slots := 0, locals := 90 }

set_option maxHeartbeats 4000000 in
set_option maxRecDepth 100000 in
theorem bX5_can_0 {l : Launch} {D : va_G} {cA : Nat → ClassId} {r : Nat → Nat} {G : gG} {xr : Int32} {v' : gV} (X : XC l D cA r RX5 cX5_can 2 (some .int) rmX5_can (some (.int xr)) v' G) (v : gV) (x1 : Int32) (h : fX5_can v x1 = some (xr, v')) : G v [(0, .ref (r 0)), (1, .int x1)] 0 [] := by
  unfold fX5_can at h
  refine g_aload_n X dX5_can_0 rfl 0 rfl ?_
  refine g_iload_n X dX5_can_1 rfl 1 rfl ?_
  obtain ⟨y1, v2, hc3, h⟩ := gB_inv h
  refine g_callV X (st := []) (st' := [.int y1]) kcX5_isMove kvX5_isMove kl5_147 (⟨rfl, rfl, by decide, by decide⟩) (mX5_isMove hc3) hNC_0 (shC_0 _) rfl rfl rfl (Nat.le_of_ble_eq_true rfl) rfl dX5_can_2 ?_
  refine g_if_ne X 11 dX5_can_5 (by decide) (fun c => ?_) (fun c => ?_)
  · replace h := gF c h
    refine g_aload_n X dX5_can_11 rfl 0 rfl ?_
    refine g_aload_n X dX5_can_12 rfl 0 rfl ?_
    refine g_get X fl5_9 hNC_0 (shC_0 _) rfl dX5_can_13 ?_
    refine g_iload_n X dX5_can_16 rfl 1 rfl ?_
    obtain ⟨y4, v5, hc6, h⟩ := gB_inv h
    refine g_callV X (st := []) (st' := [.int y4]) kcX5_canMake kvX5_canMake kl5_150 (⟨rfl, rfl, by decide, by decide⟩) (mX5_canMake gRow_1 hc6) hNC_0 (shC_0 _) rfl rfl rfl (Nat.le_of_ble_eq_true rfl) rfl dX5_can_17 ?_
    refine g_if_eq X 27 dX5_can_20 (by decide) (fun c => ?_) (fun c => ?_)
    · replace h := gTr c h
      refine g_iconst X 0 dX5_can_27 (by decide) ?_
      exact g_iretR X h dX5_can_28
    · replace h := gF c h
      refine g_iconst X 1 dX5_can_23 (by decide) ?_
      refine g_goto X 28 dX5_can_24 (by decide) ?_
      exact g_iretR X h dX5_can_28
  · replace h := gTr c h
    refine g_bipush X (-5) dX5_can_8 (by decide) ?_
    exact g_iretR X h dX5_can_10

theorem mX5_can {l : Launch} {D : va_G} {cA : Nat → ClassId} {r : Nat → Nat} {v : gV} {x1 : Int32} {xr : Int32} {v' : gV} (h : fX5_can v x1 = some (xr, v')) : Ct l D (tysC cA) (shC cA r) 50 r (ZC r) yX5_can cX5_can 2 (some .int) rmX5_can [.ref (r 0), .int x1] v (some (.int xr)) v' := ct_of plX5 ZC_ok (Nat.le_of_ble_eq_true rfl) rfl (fun _ X => bX5_can_0 X v x1 h)

def rmX5_drink : Room := { frames := 1, cells := 0, slots := 0, locals := 21 }

set_option maxHeartbeats 4000000 in
set_option maxRecDepth 100000 in
theorem bX5_drink_0 {l : Launch} {D : va_G} {cA : Nat → ClassId} {r : Nat → Nat} {G : gG} {xr : Unit} {v' : gV} (X : XC l D cA r RX5 cX5_drink 3 none rmX5_drink none v' G) (v : gV) (a0 : Nat) (x1 : Int32) (ha0 : gRow a0) (h : fX5_drink v a0 x1 = some (xr, v')) : G v [(0, .ref (r a0)), (1, .int x1)] 0 [] := by
  unfold fX5_drink at h
  refine g_iload_n X dX5_drink_0 rfl 1 rfl ?_
  refine g_aload_n X dX5_drink_1 rfl 0 rfl ?_
  refine g_iconst X 4 dX5_drink_2 (by decide) ?_
  refine g_ialdK X 4 (gRow_lt ha0) (shC_row ha0 _) rfl vin_4_7 dX5_drink_3 ?_
  refine g_min X km5_104 kmath_min.1 kmath_min.2.1 kmath_min.2.2 (by decide) (by decide) (Nat.le_of_ble_eq_true rfl) dX5_drink_4 ?_
  refine g_istore_n X (ls' := [(2, .int (gmin x1 (v a0 4))), (0, .ref (r a0)), (1, .int x1)]) dX5_drink_7 rfl (by decide) rfl ?_
  refine g_aload_n X dX5_drink_8 rfl 1 rfl ?_
  refine g_iconst X 0 dX5_drink_9 (by decide) ?_
  refine g_dup2 X dX5_drink_10 rfl rfl ?_
  refine g_ialdK X 0 (gRow_lt ha0) (shC_row ha0 _) rfl vin_0_7 dX5_drink_11 ?_
  refine g_iconst X 1 dX5_drink_12 (by decide) ?_
  refine g_isub X dX5_drink_13 ?_
  refine g_iastK X 0 (gRow_lt ha0) (shC_row ha0) rfl vin_0_7 dX5_drink_14 ?_
  refine g_aload_n X dX5_drink_15 rfl 1 rfl ?_
  refine g_iconst X 5 dX5_drink_16 (by decide) ?_
  refine g_dup2 X dX5_drink_17 rfl rfl ?_
  refine g_ialdK X 5 (gRow_lt ha0) (shC_row ha0 _) rfl vin_5_7 dX5_drink_18 ?_
  refine g_iconst X 1 dX5_drink_19 (by decide) ?_
  refine g_iadd X dX5_drink_20 ?_
  refine g_iastK X 5 (gRow_lt ha0) (shC_row ha0) rfl vin_5_7 dX5_drink_21 ?_
  refine g_aload_n X dX5_drink_22 rfl 1 rfl ?_
  refine g_iconst X 4 dX5_drink_23 (by decide) ?_
  refine g_dup2 X dX5_drink_24 rfl rfl ?_
  refine g_ialdK X 4 (gRow_lt ha0) (shC_row ha0 _) rfl vin_4_7 dX5_drink_25 ?_
  refine g_iload_n X dX5_drink_26 rfl 0 rfl ?_
  refine g_isub X dX5_drink_27 ?_
  refine g_iastK X 4 (gRow_lt ha0) (shC_row ha0) rfl vin_4_7 dX5_drink_28 ?_
  refine g_aload_n X dX5_drink_29 rfl 1 rfl ?_
  refine g_iconst X 1 dX5_drink_30 (by decide) ?_
  refine g_sipush X 999 dX5_drink_31 (by decide) ?_
  refine g_aload_n X dX5_drink_34 rfl 1 rfl ?_
  refine g_iconst X 1 dX5_drink_35 (by decide) ?_
  refine g_ialdK X 1 (gRow_lt ha0) (shC_row ha0 _) rfl vin_1_7 dX5_drink_36 ?_
  refine g_iload_n X dX5_drink_37 rfl 2 rfl ?_
  refine g_iadd X dX5_drink_38 ?_
  refine g_iload_n X dX5_drink_39 rfl 0 rfl ?_
  refine g_isub X dX5_drink_40 ?_
  refine g_min X km5_104 kmath_min.1 kmath_min.2.1 kmath_min.2.2 (by decide) (by decide) (Nat.le_of_ble_eq_true rfl) dX5_drink_41 ?_
  refine g_iastK X 1 (gRow_lt ha0) (shC_row ha0) rfl vin_1_7 dX5_drink_44 ?_
  refine g_aload_n X dX5_drink_45 rfl 1 rfl ?_
  refine g_iconst X 2 dX5_drink_46 (by decide) ?_
  refine g_sipush X 999 dX5_drink_47 (by decide) ?_
  refine g_aload_n X dX5_drink_50 rfl 1 rfl ?_
  refine g_iconst X 2 dX5_drink_51 (by decide) ?_
  refine g_ialdK X 2 (gRow_lt ha0) (shC_row ha0 _) rfl vin_2_7 dX5_drink_52 ?_
  refine g_iconst X 1 dX5_drink_53 (by decide) ?_
  refine g_iadd X dX5_drink_54 ?_
  refine g_min X km5_104 kmath_min.1 kmath_min.2.1 kmath_min.2.2 (by decide) (by decide) (Nat.le_of_ble_eq_true rfl) dX5_drink_55 ?_
  refine g_iastK X 2 (gRow_lt ha0) (shC_row ha0) rfl vin_2_7 dX5_drink_58 ?_
  refine g_aload_n X dX5_drink_59 rfl 1 rfl ?_
  refine g_iconst X 3 dX5_drink_60 (by decide) ?_
  refine g_sipush X 999 dX5_drink_61 (by decide) ?_
  refine g_aload_n X dX5_drink_64 rfl 1 rfl ?_
  refine g_iconst X 3 dX5_drink_65 (by decide) ?_
  refine g_ialdK X 3 (gRow_lt ha0) (shC_row ha0 _) rfl vin_3_7 dX5_drink_66 ?_
  refine g_iconst X 1 dX5_drink_67 (by decide) ?_
  refine g_iadd X dX5_drink_68 ?_
  refine g_min X km5_104 kmath_min.1 kmath_min.2.1 kmath_min.2.2 (by decide) (by decide) (Nat.le_of_ble_eq_true rfl) dX5_drink_69 ?_
  refine g_iastK X 3 (gRow_lt ha0) (shC_row ha0) rfl vin_3_7 dX5_drink_72 ?_
  exact g_vretR X h dX5_drink_73

theorem mX5_drink {l : Launch} {D : va_G} {cA : Nat → ClassId} {r : Nat → Nat} {v : gV} {a0 : Nat} {x1 : Int32} {xr : Unit} {v' : gV} (ha0 : gRow a0) (h : fX5_drink v a0 x1 = some (xr, v')) : Ct l D (tysC cA) (shC cA r) 50 r (ZC r) yX5_drink cX5_drink 3 none rmX5_drink [.ref (r a0), .int x1] v none v' := ct_of plX5 ZC_ok (Nat.le_of_ble_eq_true rfl) rfl (fun _ X => bX5_drink_0 X v a0 x1 ha0 h)

def rmX5_exchange : Room := { frames := 2, cells := 0, slots := 0, locals := 43 }

set_option maxHeartbeats 4000000 in
set_option maxRecDepth 100000 in
theorem bX5_exchange_0 {l : Launch} {D : va_G} {cA : Nat → ClassId} {r : Nat → Nat} {G : gG} {xr : Unit} {v' : gV} (X : XC l D cA r RX5 cX5_exchange 6 none rmX5_exchange none v' G) (v : gV) (a1 : Nat) (x2 : Int32) (ha1 : gRow a1) (h : fX5_exchange v a1 x2 = some (xr, v')) : G v [(0, .ref (r 0)), (1, .ref (r a1)), (2, .int x2)] 0 [] := by
  unfold fX5_exchange at h
  refine g_aload_n X dX5_exchange_0 rfl 0 rfl ?_
  refine g_get X fl5_24 hNC_0 (shC_0 _) rfl dX5_exchange_1 ?_
  refine g_iload_n X dX5_exchange_4 rfl 2 rfl ?_
  obtain ⟨y1, v2, hc3, h⟩ := gB_inv h
  refine g_callV X (st := []) (st' := [.int y1]) kcX1_has kvX1_has kl5_117 (⟨rfl, rfl, by decide, by decide⟩) (mX1_has hc3) hNC_4 (shC_4 _) rfl rfl rfl (Nat.le_of_ble_eq_true rfl) rfl dX5_exchange_5 ?_
  refine g_if_ne X 12 dX5_exchange_8 (by decide) (fun c => ?_) (fun c => ?_)
  · replace h := gF c h
    refine g_aload_n X dX5_exchange_12 rfl 0 rfl ?_
    refine g_get X fl5_24 hNC_0 (shC_0 _) rfl dX5_exchange_13 ?_
    refine g_get X fl5_132 hNC_4 (shC_4 _) rfl dX5_exchange_16 ?_
    refine g_iload_n X dX5_exchange_19 rfl 2 rfl ?_
    obtain ⟨c, h⟩ := gGd h
    refine g_iald X hNC_10 (shC_10 _) rfl (gin_in c) dX5_exchange_20 ?_
    refine g_istore_n X (ls' := [(3, .int (v2 10 x2.toNatClampNeg)), (0, .ref (r 0)), (1, .ref (r a1)), (2, .int x2)]) dX5_exchange_21 rfl (by decide) rfl ?_
    refine g_iload_n X dX5_exchange_22 rfl 0 rfl ?_
    refine g_iconst X 1 dX5_exchange_23 (by decide) ?_
    refine g_icmp_lt X 32 dX5_exchange_24 (by decide) (fun c => ?_) (fun c => ?_)
    · replace h := gTr c h
      exact g_vretR X h dX5_exchange_32
    · replace h := gF c h
      refine g_iload_n X dX5_exchange_27 rfl 0 rfl ?_
      refine g_iconst X 3 dX5_exchange_28 (by decide) ?_
      refine g_icmp_le X 33 dX5_exchange_29 (by decide) (fun c => ?_) (fun c => ?_)
      · replace h := gTr c h
        refine g_aload_n X dX5_exchange_33 rfl 1 rfl ?_
        refine g_get X fl5_24 hNC_0 (shC_0 _) rfl dX5_exchange_34 ?_
        refine g_iload_n X dX5_exchange_37 rfl 3 rfl ?_
        refine g_aload_n X dX5_exchange_38 rfl 2 rfl ?_
        refine g_bipush X 6 dX5_exchange_39 (by decide) ?_
        refine g_ialdK X 6 (gRow_lt ha1) (shC_row ha1 _) rfl vin_6_7 dX5_exchange_41 ?_
        obtain ⟨y4, v5, hc6, h⟩ := gB_inv h
        refine g_callV X (st := []) (st' := [.int y4]) kcX1_takes kvX1_takes kl5_138 (⟨rfl, rfl, by decide, by decide⟩) (mX1_takes hc6) hNC_4 (shC_4 _) rfl rfl rfl (Nat.le_of_ble_eq_true rfl) rfl dX5_exchange_42 ?_
        refine g_istore X (ls' := [(4, .int y4), (3, .int (v2 10 x2.toNatClampNeg)), (0, .ref (r 0)), (1, .ref (r a1)), (2, .int x2)]) dX5_exchange_45 (by decide) rfl ?_
        refine g_iload X dX5_exchange_47 0 rfl ?_
        refine g_aload_n X dX5_exchange_49 rfl 3 rfl ?_
        refine g_iload_n X dX5_exchange_50 rfl 1 rfl ?_
        obtain ⟨c, h⟩ := gGd h
        refine g_iald X (gRow_lt ha1) (shC_row ha1 _) rfl (gin_in c) dX5_exchange_51 ?_
        refine g_min X km5_104 kmath_min.1 kmath_min.2.1 kmath_min.2.2 (by decide) (by decide) (Nat.le_of_ble_eq_true rfl) dX5_exchange_52 ?_
        refine g_istore X (ls' := [(5, .int (gmin y4 (v5 a1 (v2 10 x2.toNatClampNeg).toNatClampNeg))), (4, .int y4), (3, .int (v2 10 x2.toNatClampNeg)), (0, .ref (r 0)), (1, .ref (r a1)), (2, .int x2)]) dX5_exchange_55 (by decide) rfl ?_
        refine g_aload_n X dX5_exchange_57 rfl 4 rfl ?_
        refine g_iload_n X dX5_exchange_58 rfl 2 rfl ?_
        refine g_dup2 X dX5_exchange_59 rfl rfl ?_
        obtain ⟨c, h⟩ := gGd h
        refine g_iald X (gRow_lt ha1) (shC_row ha1 _) rfl (gin_in c) dX5_exchange_60 ?_
        refine g_iload X dX5_exchange_61 0 rfl ?_
        refine g_isub X dX5_exchange_63 ?_
        obtain ⟨c, h⟩ := gGd h
        refine g_iast X (gRow_lt ha1) (shC_row ha1) rfl (gin_in c) dX5_exchange_64 ?_
        refine g_aload_n X dX5_exchange_65 rfl 4 rfl ?_
        refine g_iconst X 4 dX5_exchange_66 (by decide) ?_
        refine g_dup2 X dX5_exchange_67 rfl rfl ?_
        refine g_ialdK X 4 (gRow_lt ha1) (shC_row ha1 _) rfl vin_4_7 dX5_exchange_68 ?_
        refine g_iload X dX5_exchange_69 1 rfl ?_
        refine g_iload X dX5_exchange_71 0 rfl ?_
        refine g_isub X dX5_exchange_73 ?_
        refine g_iadd X dX5_exchange_74 ?_
        refine g_iastK X 4 (gRow_lt ha1) (shC_row ha1) rfl vin_4_7 dX5_exchange_75 ?_
        refine g_aload_n X dX5_exchange_76 rfl 4 rfl ?_
        refine g_iconst X 0 dX5_exchange_77 (by decide) ?_
        refine g_dup2 X dX5_exchange_78 rfl rfl ?_
        refine g_ialdK X 0 (gRow_lt ha1) (shC_row ha1 _) rfl vin_0_7 dX5_exchange_79 ?_
        refine g_aload_n X dX5_exchange_80 rfl 3 rfl ?_
        refine g_get X fl5_24 hNC_0 (shC_0 _) rfl dX5_exchange_81 ?_
        refine g_iload_n X dX5_exchange_84 rfl 5 rfl ?_
        refine g_aload_n X dX5_exchange_85 rfl 4 rfl ?_
        refine g_bipush X 6 dX5_exchange_86 (by decide) ?_
        refine g_ialdK X 6 (gRow_lt ha1) (shC_row ha1 _) rfl vin_6_7 dX5_exchange_88 ?_
        obtain ⟨y7, v8, hc9, h⟩ := gB_inv h
        refine g_callV X (st := [.int ((up1 (up1 v5 a1 (v2 10 x2.toNatClampNeg).toNatClampNeg ((v5 a1 (v2 10 x2.toNatClampNeg).toNatClampNeg) - (gmin y4 (v5 a1 (v2 10 x2.toNatClampNeg).toNatClampNeg)))) a1 4 (((up1 v5 a1 (v2 10 x2.toNatClampNeg).toNatClampNeg ((v5 a1 (v2 10 x2.toNatClampNeg).toNatClampNeg) - (gmin y4 (v5 a1 (v2 10 x2.toNatClampNeg).toNatClampNeg)))) a1 4) + (y4 - (gmin y4 (v5 a1 (v2 10 x2.toNatClampNeg).toNatClampNeg))))) a1 0), .int 0, .ref (r a1)]) (st' := [.int y7, .int ((up1 (up1 v5 a1 (v2 10 x2.toNatClampNeg).toNatClampNeg ((v5 a1 (v2 10 x2.toNatClampNeg).toNatClampNeg) - (gmin y4 (v5 a1 (v2 10 x2.toNatClampNeg).toNatClampNeg)))) a1 4 (((up1 v5 a1 (v2 10 x2.toNatClampNeg).toNatClampNeg ((v5 a1 (v2 10 x2.toNatClampNeg).toNatClampNeg) - (gmin y4 (v5 a1 (v2 10 x2.toNatClampNeg).toNatClampNeg)))) a1 4) + (y4 - (gmin y4 (v5 a1 (v2 10 x2.toNatClampNeg).toNatClampNeg))))) a1 0), .int 0, .ref (r a1)]) kcX1_gives kvX1_gives kl5_141 (⟨rfl, rfl, by decide, by decide⟩) (mX1_gives hc9) hNC_4 (shC_4 _) rfl rfl rfl (Nat.le_of_ble_eq_true rfl) rfl dX5_exchange_89 ?_
        refine g_iadd X dX5_exchange_92 ?_
        refine g_iastK X 0 (gRow_lt ha1) (shC_row ha1) rfl vin_0_7 dX5_exchange_93 ?_
        exact g_vretR X h dX5_exchange_94
      · replace h := gF c h
        exact g_vretR X h dX5_exchange_32
  · replace h := gTr c h
    exact g_vretR X h dX5_exchange_11

theorem mX5_exchange {l : Launch} {D : va_G} {cA : Nat → ClassId} {r : Nat → Nat} {v : gV} {a1 : Nat} {x2 : Int32} {xr : Unit} {v' : gV} (ha1 : gRow a1) (h : fX5_exchange v a1 x2 = some (xr, v')) : Ct l D (tysC cA) (shC cA r) 50 r (ZC r) yX5_exchange cX5_exchange 6 none rmX5_exchange [.ref (r 0), .ref (r a1), .int x2] v none v' := ct_of plX5 ZC_ok (Nat.le_of_ble_eq_true rfl) rfl (fun _ X => bX5_exchange_0 X v a1 x2 ha1 h)

def rmX5_make : Room := { frames := 3, cells := 0, slots := 0, locals := 73 }

set_option maxHeartbeats 4000000 in
set_option maxRecDepth 100000 in
theorem bX5_make_0 {l : Launch} {D : va_G} {cA : Nat → ClassId} {r : Nat → Nat} {G : gG} {xr : Unit} {v' : gV} (X : XC l D cA r RX5 cX5_make 4 none rmX5_make none v' G) (v : gV) (a1 : Nat) (x2 : Int32) (x3 : Int32) (ha1 : gRow a1) (h : fX5_make v a1 x2 x3 = some (xr, v')) : G v [(0, .ref (r 0)), (1, .ref (r a1)), (2, .int x2), (3, .int x3)] 0 [] := by
  unfold fX5_make at h
  refine g_iload_n X dX5_make_0 rfl 2 rfl ?_
  refine g_if_ne X 18 dX5_make_1 (by decide) (fun c => ?_) (fun c => ?_)
  · replace h := gF c h
    refine g_aload_n X dX5_make_18 rfl 0 rfl ?_
    refine g_aload_n X dX5_make_19 rfl 1 rfl ?_
    refine g_iload_n X dX5_make_20 rfl 2 rfl ?_
    refine g_iconst X 1 dX5_make_21 (by decide) ?_
    refine g_isub X dX5_make_22 ?_
    obtain ⟨y1, v2, hc3, h⟩ := gB_inv h
    refine g_callV X (st := []) (st' := []) kcX5_exchange kvX5_exchange kl5_197 (⟨rfl, rfl, by decide, by decide⟩) (mX5_exchange ha1 hc3) hNC_0 (shC_0 _) rfl rfl rfl (Nat.le_of_ble_eq_true rfl) rfl dX5_make_23 ?_
    exact g_vretR X h dX5_make_26
  · replace h := gTr c h
    refine g_aload_n X dX5_make_4 rfl 1 rfl ?_
    refine g_aload_n X dX5_make_5 rfl 0 rfl ?_
    refine g_iload_n X dX5_make_6 rfl 3 rfl ?_
    refine g_iconst X 0 dX5_make_7 (by decide) ?_
    refine g_aload_n X dX5_make_8 rfl 1 rfl ?_
    obtain ⟨y4, v5, hc6, h⟩ := gB_inv h
    refine g_callV X (st := [.ref (r a1)]) (st' := [.int y4, .ref (r a1)]) kcX5_says kvX5_says kl5_93 (⟨rfl, rfl, by decide, by decide⟩) (mX5_says ha1 hc6) hNC_0 (shC_0 _) rfl rfl rfl (Nat.le_of_ble_eq_true rfl) rfl dX5_make_9 ?_
    obtain ⟨y7, v8, hc9, h⟩ := gB_inv h
    refine g_callS X (st := []) (st' := []) kcX5_drink ktX5_drink kl5_193 (⟨rfl, rfl, by decide, by decide⟩) (mX5_drink ha1 hc9) rfl rfl (Nat.le_of_ble_eq_true rfl) rfl dX5_make_12 ?_
    refine g_goto X 26 dX5_make_15 (by decide) ?_
    exact g_vretR X h dX5_make_26

theorem mX5_make {l : Launch} {D : va_G} {cA : Nat → ClassId} {r : Nat → Nat} {v : gV} {a1 : Nat} {x2 : Int32} {x3 : Int32} {xr : Unit} {v' : gV} (ha1 : gRow a1) (h : fX5_make v a1 x2 x3 = some (xr, v')) : Ct l D (tysC cA) (shC cA r) 50 r (ZC r) yX5_make cX5_make 4 none rmX5_make [.ref (r 0), .ref (r a1), .int x2, .int x3] v none v' := ct_of plX5 ZC_ok (Nat.le_of_ble_eq_true rfl) rfl (fun _ X => bX5_make_0 X v a1 x2 x3 ha1 h)

def rmX5_move : Room := { frames := 4, cells := 0, slots := 0, locals := 96 }

set_option maxHeartbeats 4000000 in
set_option maxRecDepth 100000 in
theorem bX5_move_0 {l : Launch} {D : va_G} {cA : Nat → ClassId} {r : Nat → Nat} {G : gG} {xr : Int32} {v' : gV} (X : XC l D cA r RX5 cX5_move 2 (some .int) rmX5_move (some (.int xr)) v' G) (v : gV) (x1 : Int32) (h : fX5_move v x1 = some (xr, v')) : G v [(0, .ref (r 0)), (1, .int x1)] 0 [] := by
  unfold fX5_move at h
  refine g_aload_n X dX5_move_0 rfl 0 rfl ?_
  refine g_iload_n X dX5_move_1 rfl 1 rfl ?_
  obtain ⟨y1, v2, hc3, h⟩ := gB_inv h
  refine g_callV X (st := []) (st' := [.int y1]) kcX5_isMove kvX5_isMove kl5_147 (⟨rfl, rfl, by decide, by decide⟩) (mX5_isMove hc3) hNC_0 (shC_0 _) rfl rfl rfl (Nat.le_of_ble_eq_true rfl) rfl dX5_move_2 ?_
  refine g_if_ne X 11 dX5_move_5 (by decide) (fun c => ?_) (fun c => ?_)
  · replace h := gF c h
    refine g_aload_n X dX5_move_11 rfl 0 rfl ?_
    refine g_aload_n X dX5_move_12 rfl 0 rfl ?_
    refine g_get X fl5_9 hNC_0 (shC_0 _) rfl dX5_move_13 ?_
    refine g_iload_n X dX5_move_16 rfl 1 rfl ?_
    obtain ⟨y4, v5, hc6, h⟩ := gB_inv h
    refine g_callV X (st := []) (st' := [.int y4]) kcX5_canMake kvX5_canMake kl5_150 (⟨rfl, rfl, by decide, by decide⟩) (mX5_canMake gRow_1 hc6) hNC_0 (shC_0 _) rfl rfl rfl (Nat.le_of_ble_eq_true rfl) rfl dX5_move_17 ?_
    refine g_if_ne X 26 dX5_move_20 (by decide) (fun c => ?_) (fun c => ?_)
    · replace h := gF c h
      refine g_aload_n X dX5_move_26 rfl 0 rfl ?_
      refine g_aload_n X dX5_move_27 rfl 0 rfl ?_
      refine g_get X fl5_9 hNC_0 (shC_0 _) rfl dX5_move_28 ?_
      refine g_iload_n X dX5_move_31 rfl 1 rfl ?_
      refine g_aload_n X dX5_move_32 rfl 0 rfl ?_
      refine g_get X fl5_73 hNC_0 (shC_0 _) rfl dX5_move_33 ?_
      obtain ⟨y7, v8, hc9, h⟩ := gB_inv h
      refine g_callV X (st := []) (st' := []) kcX5_make kvX5_make kl5_154 (⟨rfl, rfl, by decide, by decide⟩) (mX5_make gRow_1 hc9) hNC_0 (shC_0 _) rfl rfl rfl (Nat.le_of_ble_eq_true rfl) rfl dX5_move_36 ?_
      refine g_aload_n X dX5_move_39 rfl 0 rfl ?_
      refine g_get X fl5_9 hNC_0 (shC_0 _) rfl dX5_move_40 ?_
      refine g_iconst X 5 dX5_move_43 (by decide) ?_
      refine g_ialdK X 5 hNC_1 (shC_1 _) rfl vin_5_7 dX5_move_44 ?_
      exact g_iretR X h dX5_move_45
    · replace h := gTr c h
      refine g_bipush X (-3) dX5_move_23 (by decide) ?_
      exact g_iretR X h dX5_move_25
  · replace h := gTr c h
    refine g_bipush X (-5) dX5_move_8 (by decide) ?_
    exact g_iretR X h dX5_move_10

theorem mX5_move {l : Launch} {D : va_G} {cA : Nat → ClassId} {r : Nat → Nat} {v : gV} {x1 : Int32} {xr : Int32} {v' : gV} (h : fX5_move v x1 = some (xr, v')) : Ct l D (tysC cA) (shC cA r) 50 r (ZC r) yX5_move cX5_move 2 (some .int) rmX5_move [.ref (r 0), .int x1] v (some (.int xr)) v' := ct_of plX5 ZC_ok (Nat.le_of_ble_eq_true rfl) rfl (fun _ X => bX5_move_0 X v x1 h)

def rmX5_pick : Room := { frames := 3, cells := 0, slots := 0, locals := 68 }

set_option maxHeartbeats 4000000 in
set_option maxRecDepth 100000 in
theorem bX5_pick_40 {l : Launch} {D : va_G} {cA : Nat → ClassId} {r : Nat → Nat} {G : gG} {xr : Int32} {v' : gV} {k11 : gV → Nat → Int32 → Int32 → Option (Int32 × gV)} (X : XC l D cA r RX5 cX5_pick 4 (some .int) rmX5_pick (some (.int xr)) v' G) (K11 : ∀ (v : gV) (ix1 : Nat) (x2 : Int32) (x3 : Int32), gRow ix1 → k11 v ix1 x2 x3 = some (xr, v') → G v [(0, .ref (r 0)), (1, .ref (r ix1)), (2, .int x2), (3, .int x3)] 11 []) (v : gV) (ix1 : Nat) (x2 : Int32) (x3 : Int32) (hix1 : gRow ix1) (h : fX5_pick_40 k11 v ix1 x2 x3 = some (xr, v')) : G v [(0, .ref (r 0)), (1, .ref (r ix1)), (2, .int x2), (3, .int x3)] 40 [] := by
  unfold fX5_pick_40 at h
  refine g_iinc X (x3 + 1) [(3, .int (x3 + 1)), (0, .ref (r 0)), (1, .ref (r ix1)), (2, .int x2)] dX5_pick_40 3 rfl rfl (by decide) rfl ?_
  refine g_goto X 11 dX5_pick_43 (by decide) ?_
  refine g_sub X [1, 2, 3, 0] (ls' := [(0, .ref (r 0)), (1, .ref (r ix1)), (2, .int x2), (3, .int (x3 + 1))]) rfl ?_
  exact K11 _ _ _ _ hix1 h

set_option maxHeartbeats 4000000 in
set_option maxRecDepth 100000 in
theorem bX5_pick_11 {l : Launch} {D : va_G} {cA : Nat → ClassId} {r : Nat → Nat} {G : gG} {xr : Int32} {v' : gV} (X : XC l D cA r RX5 cX5_pick 4 (some .int) rmX5_pick (some (.int xr)) v' G) : ∀ (n : Nat) (v : gV) (ix1 : Nat) (x2 : Int32) (x3 : Int32), gRow ix1 → fX5_pick_11 n v ix1 x2 x3 = some (xr, v') → G v [(0, .ref (r 0)), (1, .ref (r ix1)), (2, .int x2), (3, .int x3)] 11 [] := by
  intro n
  induction n with
  | zero => intro v ix1 x2 x3 hix1 h; rw [fX5_pick_11] at h; cases h
  | succ n ih =>
    intro v ix1 x2 x3 hix1 h
    rw [fX5_pick_11] at h
    refine g_iload_n X dX5_pick_11 rfl 3 rfl ?_
    refine g_aload_n X dX5_pick_12 rfl 0 rfl ?_
    refine g_get X fl5_24 hNC_0 (shC_0 _) rfl dX5_pick_13 ?_
    refine g_get X fl5_70 hNC_4 (shC_4 _) rfl dX5_pick_16 ?_
    refine g_icmp_ge X 46 dX5_pick_19 (by decide) (fun c => ?_) (fun c => ?_)
    · replace h := gTr c h
      refine g_iconst X (-1) dX5_pick_46 (by decide) ?_
      exact g_iretR X h dX5_pick_47
    · replace h := gF c h
      refine g_iload_n X dX5_pick_22 rfl 3 rfl ?_
      refine g_iload_n X dX5_pick_23 rfl 2 rfl ?_
      refine g_icmp_eq X 40 dX5_pick_24 (by decide) (fun c => ?_) (fun c => ?_)
      · replace h := gTr c h
        exact bX5_pick_40 X ih _ _ _ _ hix1 h
      · replace h := gF c h
        refine g_aload_n X dX5_pick_27 rfl 0 rfl ?_
        refine g_aload_n X dX5_pick_28 rfl 1 rfl ?_
        refine g_iload_n X dX5_pick_29 rfl 3 rfl ?_
        obtain ⟨y4, v5, hc6, h⟩ := gB_inv h
        refine g_callV X (st := []) (st' := [.int y4]) kcX5_canExchange kvX5_canExchange kl5_190 (⟨rfl, rfl, by decide, by decide⟩) (mX5_canExchange hix1 hc6) hNC_0 (shC_0 _) rfl rfl rfl (Nat.le_of_ble_eq_true rfl) rfl dX5_pick_30 ?_
        refine g_if_eq X 40 dX5_pick_33 (by decide) (fun c => ?_) (fun c => ?_)
        · replace h := gTr c h
          exact bX5_pick_40 X ih _ _ _ _ hix1 h
        · replace h := gF c h
          refine g_iload_n X dX5_pick_36 rfl 3 rfl ?_
          refine g_iconst X 1 dX5_pick_37 (by decide) ?_
          refine g_iadd X dX5_pick_38 ?_
          exact g_iretR X h dX5_pick_39

set_option maxHeartbeats 4000000 in
set_option maxRecDepth 100000 in
theorem bX5_pick_0 {l : Launch} {D : va_G} {cA : Nat → ClassId} {r : Nat → Nat} {G : gG} {xr : Int32} {v' : gV} (X : XC l D cA r RX5 cX5_pick 4 (some .int) rmX5_pick (some (.int xr)) v' G) (v : gV) (a1 : Nat) (x2 : Int32) (ha1 : gRow a1) (h : fX5_pick v a1 x2 = some (xr, v')) : G v [(0, .ref (r 0)), (1, .ref (r a1)), (2, .int x2)] 0 [] := by
  unfold fX5_pick at h
  refine g_aload_n X dX5_pick_0 rfl 1 rfl ?_
  obtain ⟨y1, v2, hc3, h⟩ := gB_inv h
  refine g_callS X (st := []) (st' := [.int y1]) kcX5_canDrink ktX5_canDrink kl5_186 (⟨rfl, rfl, by decide, by decide⟩) (mX5_canDrink ha1 hc3) rfl rfl (Nat.le_of_ble_eq_true rfl) rfl dX5_pick_1 ?_
  refine g_if_eq X 9 dX5_pick_4 (by decide) (fun c => ?_) (fun c => ?_)
  · replace h := gTr c h
    refine g_iconst X 0 dX5_pick_9 (by decide) ?_
    refine g_istore_n X (ls' := [(3, .int 0), (0, .ref (r 0)), (1, .ref (r a1)), (2, .int x2)]) dX5_pick_10 rfl (by decide) rfl ?_
    refine g_sub X [1, 2, 3, 0] (ls' := [(0, .ref (r 0)), (1, .ref (r a1)), (2, .int x2), (3, .int 0)]) rfl ?_
    exact bX5_pick_11 X  _ _ _ _ _ ha1 h
  · replace h := gF c h
    refine g_iconst X 0 dX5_pick_7 (by decide) ?_
    exact g_iretR X h dX5_pick_8

theorem mX5_pick {l : Launch} {D : va_G} {cA : Nat → ClassId} {r : Nat → Nat} {v : gV} {a1 : Nat} {x2 : Int32} {xr : Int32} {v' : gV} (ha1 : gRow a1) (h : fX5_pick v a1 x2 = some (xr, v')) : Ct l D (tysC cA) (shC cA r) 50 r (ZC r) yX5_pick cX5_pick 4 (some .int) rmX5_pick [.ref (r 0), .ref (r a1), .int x2] v (some (.int xr)) v' := ct_of plX5 ZC_ok (Nat.le_of_ble_eq_true rfl) rfl (fun _ X => bX5_pick_0 X v a1 x2 ha1 h)

def rmX5_runGreedily : Room := { frames := 4, cells := 0, slots := 0, locals := 96 }

set_option maxHeartbeats 4000000 in
set_option maxRecDepth 100000 in
theorem bX5_runGreedily_3 {l : Launch} {D : va_G} {cA : Nat → ClassId} {r : Nat → Nat} {G : gG} {xr : Int32} {v' : gV} (X : XC l D cA r RX5 cX5_runGreedily 7 (some .int) rmX5_runGreedily (some (.int xr)) v' G) : ∀ (n : Nat) (v : gV) (ix1 : Nat) (x2 : Int32) (x3 : Int32) (x4 : Int32) (x5 : Int32), gRow ix1 → fX5_runGreedily_3 n v ix1 x2 x3 x4 x5 = some (xr, v') → G v [(0, .ref (r 0)), (1, .ref (r ix1)), (2, .int x2), (3, .int x3), (4, .int x4), (5, .int x5)] 3 [] := by
  intro n
  induction n with
  | zero => intro v ix1 x2 x3 x4 x5 hix1 h; rw [fX5_runGreedily_3] at h; cases h
  | succ n ih =>
    intro v ix1 x2 x3 x4 x5 hix1 h
    rw [fX5_runGreedily_3] at h
    refine g_iload X dX5_runGreedily_3 5 rfl ?_
    refine g_iload_n X dX5_runGreedily_5 rfl 2 rfl ?_
    refine g_icmp_ge X 41 dX5_runGreedily_6 (by decide) (fun c => ?_) (fun c => ?_)
    · replace h := gTr c h
      refine g_iload_n X dX5_runGreedily_41 rfl 2 rfl ?_
      exact g_iretR X h dX5_runGreedily_42
    · replace h := gF c h
      refine g_aload_n X dX5_runGreedily_9 rfl 0 rfl ?_
      refine g_aload_n X dX5_runGreedily_10 rfl 1 rfl ?_
      refine g_iload_n X dX5_runGreedily_11 rfl 3 rfl ?_
      obtain ⟨y1, v2, hc3, h⟩ := gB_inv h
      refine g_callV X (st := []) (st' := [.int y1]) kcX5_pick kvX5_pick kl5_166 (⟨rfl, rfl, by decide, by decide⟩) (mX5_pick hix1 hc3) hNC_0 (shC_0 _) rfl rfl rfl (Nat.le_of_ble_eq_true rfl) rfl dX5_runGreedily_12 ?_
      refine g_istore X (ls' := [(6, .int y1), (0, .ref (r 0)), (1, .ref (r ix1)), (2, .int x2), (3, .int x3), (4, .int x4), (5, .int x5)]) dX5_runGreedily_15 (by decide) rfl ?_
      refine g_iload X dX5_runGreedily_17 0 rfl ?_
      refine g_iconst X (-1) dX5_runGreedily_19 (by decide) ?_
      refine g_icmp_ne X 26 dX5_runGreedily_20 (by decide) (fun c => ?_) (fun c => ?_)
      · replace h := gF c h
        refine g_aload_n X dX5_runGreedily_26 rfl 1 rfl ?_
        refine g_aload_n X dX5_runGreedily_27 rfl 2 rfl ?_
        refine g_iload X dX5_runGreedily_28 0 rfl ?_
        refine g_iload X dX5_runGreedily_30 5 rfl ?_
        obtain ⟨y4, v5, hc6, h⟩ := gB_inv h
        refine g_callV X (st := []) (st' := []) kcX5_make kvX5_make kl5_154 (⟨rfl, rfl, by decide, by decide⟩) (mX5_make hix1 hc6) hNC_0 (shC_0 _) rfl rfl rfl (Nat.le_of_ble_eq_true rfl) rfl dX5_runGreedily_32 ?_
        refine g_iinc X (x5 + 1) [(5, .int (x5 + 1)), (6, .int y1), (0, .ref (r 0)), (1, .ref (r ix1)), (2, .int x2), (3, .int x3), (4, .int x4)] dX5_runGreedily_35 6 rfl rfl (by decide) rfl ?_
        refine g_goto X 3 dX5_runGreedily_38 (by decide) ?_
        refine g_sub X [2, 3, 4, 5, 6, 0] (ls' := [(0, .ref (r 0)), (1, .ref (r ix1)), (2, .int x2), (3, .int x3), (4, .int x4), (5, .int (x5 + 1))]) rfl ?_
        exact ih _ _ _ _ _ _ hix1 h
      · replace h := gTr c h
        refine g_iload X dX5_runGreedily_23 6 rfl ?_
        exact g_iretR X h dX5_runGreedily_25

set_option maxHeartbeats 4000000 in
set_option maxRecDepth 100000 in
theorem bX5_runGreedily_0 {l : Launch} {D : va_G} {cA : Nat → ClassId} {r : Nat → Nat} {G : gG} {xr : Int32} {v' : gV} (X : XC l D cA r RX5 cX5_runGreedily 7 (some .int) rmX5_runGreedily (some (.int xr)) v' G) (v : gV) (a1 : Nat) (x2 : Int32) (x3 : Int32) (x4 : Int32) (ha1 : gRow a1) (h : fX5_runGreedily v a1 x2 x3 x4 = some (xr, v')) : G v [(0, .ref (r 0)), (1, .ref (r a1)), (2, .int x2), (3, .int x3), (4, .int x4)] 0 [] := by
  unfold fX5_runGreedily at h
  refine g_iconst X 0 dX5_runGreedily_0 (by decide) ?_
  refine g_istore X (ls' := [(5, .int 0), (0, .ref (r 0)), (1, .ref (r a1)), (2, .int x2), (3, .int x3), (4, .int x4)]) dX5_runGreedily_1 (by decide) rfl ?_
  refine g_sub X [1, 2, 3, 4, 5, 0] (ls' := [(0, .ref (r 0)), (1, .ref (r a1)), (2, .int x2), (3, .int x3), (4, .int x4), (5, .int 0)]) rfl ?_
  exact bX5_runGreedily_3 X  _ _ _ _ _ _ _ ha1 h

theorem mX5_runGreedily {l : Launch} {D : va_G} {cA : Nat → ClassId} {r : Nat → Nat} {v : gV} {a1 : Nat} {x2 : Int32} {x3 : Int32} {x4 : Int32} {xr : Int32} {v' : gV} (ha1 : gRow a1) (h : fX5_runGreedily v a1 x2 x3 x4 = some (xr, v')) : Ct l D (tysC cA) (shC cA r) 50 r (ZC r) yX5_runGreedily cX5_runGreedily 7 (some .int) rmX5_runGreedily [.ref (r 0), .ref (r a1), .int x2, .int x3, .int x4] v (some (.int xr)) v' := ct_of plX5 ZC_ok (Nat.le_of_ble_eq_true rfl) rfl (fun _ X => bX5_runGreedily_0 X v a1 x2 x3 x4 ha1 h)

def rmX5_startThought : Room := { frames := 1, cells := 0, slots := 0, locals := 40 }

set_option maxHeartbeats 4000000 in
set_option maxRecDepth 100000 in
theorem bX5_startThought_0 {l : Launch} {D : va_G} {cA : Nat → ClassId} {r : Nat → Nat} {G : gG} {xr : Unit} {v' : gV} (X : XC l D cA r RX5 cX5_startThought 1 (some (.array .int)) rmX5_startThought (some (.ref (r 2))) v' G) (v : gV)  (h : fX5_startThought v  = some (xr, v')) : G v [(0, .ref (r 0))] 0 [] := by
  unfold fX5_startThought at h
  refine g_aload_n X dX5_startThought_0 rfl 0 rfl ?_
  refine g_get X fl5_9 hNC_0 (shC_0 _) rfl dX5_startThought_1 ?_
  refine g_iconst X 0 dX5_startThought_4 (by decide) ?_
  refine g_aload_n X dX5_startThought_5 rfl 0 rfl ?_
  refine g_get X fl5_13 hNC_0 (shC_0 _) rfl dX5_startThought_6 ?_
  refine g_iconst X 0 dX5_startThought_9 (by decide) ?_
  refine g_bipush X 7 dX5_startThought_10 (by decide) ?_
  refine g_copyK X kc_0_0_7_7_7 km5_176 kcopy.1 kcopy.2.1 kcopy.2.2 hNC_1 hNC_2 (shC_1 _) (shC_2) rfl rfl (by decide) (by decide) (Nat.le_of_ble_eq_true rfl) dX5_startThought_12 ?_
  refine g_aload_n X dX5_startThought_15 rfl 0 rfl ?_
  refine g_get X fl5_13 hNC_0 (shC_0 _) rfl dX5_startThought_16 ?_
  exact g_aretR X h dX5_startThought_19

theorem mX5_startThought {l : Launch} {D : va_G} {cA : Nat → ClassId} {r : Nat → Nat} {v : gV}  {xr : Unit} {v' : gV} (h : fX5_startThought v  = some (xr, v')) : Ct l D (tysC cA) (shC cA r) 50 r (ZC r) yX5_startThought cX5_startThought 1 (some (.array .int)) rmX5_startThought [.ref (r 0)] v (some (.ref (r 2))) v' := ct_of plX5 ZC_ok (Nat.le_of_ble_eq_true rfl) rfl (fun _ X => bX5_startThought_0 X v  h)

def rmX5_all : Room := { frames := 5, cells := 0, slots := 0, locals := 122 }

set_option maxHeartbeats 4000000 in
set_option maxRecDepth 100000 in
theorem bX5_all_0 {l : Launch} {D : va_G} {cA : Nat → ClassId} {r : Nat → Nat} {G : gG} {xr : Int32} {v' : gV} (X : XC l D cA r RX5 cX5_all 4 (some .int) rmX5_all (some (.int xr)) v' G) (v : gV) (x1 : Int32) (h : fX5_all v x1 = some (xr, v')) : G v [(0, .ref (r 0)), (1, .int x1)] 0 [] := by
  unfold fX5_all at h
  refine g_iload_n X dX5_all_0 rfl 1 rfl ?_
  refine g_if_lt X 10 dX5_all_1 (by decide) (fun c => ?_) (fun c => ?_)
  · replace h := gTr c h
    refine g_bipush X (-2) dX5_all_10 (by decide) ?_
    exact g_iretR X h dX5_all_12
  · replace h := gF c h
    refine g_iload_n X dX5_all_4 rfl 1 rfl ?_
    refine g_bipush X 6 dX5_all_5 (by decide) ?_
    refine g_icmp_le X 13 dX5_all_7 (by decide) (fun c => ?_) (fun c => ?_)
    · replace h := gTr c h
      refine g_aload_n X dX5_all_13 rfl 0 rfl ?_
      obtain ⟨y1, v2, hc3, h⟩ := gB_inv h
      refine g_callV X (st := []) (st' := [.ref (r 2)]) kcX5_startThought kvX5_startThought kl5_158 (⟨rfl, rfl, by decide, by decide⟩) (mX5_startThought hc3) hNC_0 (shC_0 _) rfl rfl rfl (Nat.le_of_ble_eq_true rfl) rfl dX5_all_14 ?_
      refine g_astore_n X (ls' := [(2, .ref (r 2)), (0, .ref (r 0)), (1, .int x1)]) dX5_all_17 rfl (by decide) rfl ?_
      refine g_aload_n X dX5_all_18 rfl 1 rfl ?_
      refine g_aload_n X dX5_all_19 rfl 0 rfl ?_
      refine g_sipush X 200 dX5_all_20 (by decide) ?_
      refine g_iconst X (-1) dX5_all_23 (by decide) ?_
      refine g_aload_n X dX5_all_24 rfl 1 rfl ?_
      refine g_get X fl5_73 hNC_0 (shC_0 _) rfl dX5_all_25 ?_
      obtain ⟨y4, v5, hc6, h⟩ := gB_inv h
      refine g_callV X (st := []) (st' := [.int y4]) kcX5_runGreedily kvX5_runGreedily kl5_162 (⟨rfl, rfl, by decide, by decide⟩) (mX5_runGreedily gRow_2 hc6) hNC_0 (shC_0 _) rfl rfl rfl (Nat.le_of_ble_eq_true rfl) rfl dX5_all_28 ?_
      refine g_istore_n X (ls' := [(3, .int y4), (2, .ref (r 2)), (0, .ref (r 0)), (1, .int x1)]) dX5_all_31 rfl (by decide) rfl ?_
      refine g_iload_n X dX5_all_32 rfl 3 rfl ?_
      refine g_if_ne X 40 dX5_all_33 (by decide) (fun c => ?_) (fun c => ?_)
      · replace h := gF c h
        refine g_iload_n X dX5_all_40 rfl 3 rfl ?_
        refine g_iconst X 1 dX5_all_41 (by decide) ?_
        refine g_icmp_ne X 47 dX5_all_42 (by decide) (fun c => ?_) (fun c => ?_)
        · replace h := gF c h
          refine g_aload_n X dX5_all_47 rfl 1 rfl ?_
          refine g_iload_n X dX5_all_48 rfl 3 rfl ?_
          refine g_iconst X 2 dX5_all_49 (by decide) ?_
          refine g_isub X dX5_all_50 ?_
          obtain ⟨c, h⟩ := gGd h
          refine g_iald X hNC_2 (shC_2 _) rfl (gin_in c) dX5_all_51 ?_
          exact g_iretR X h dX5_all_52
        · replace h := gTr c h
          refine g_iload_n X dX5_all_45 rfl 0 rfl ?_
          exact g_iretR X h dX5_all_46
      · replace h := gTr c h
        refine g_aload_n X dX5_all_36 rfl 1 rfl ?_
        refine g_iconst X 5 dX5_all_37 (by decide) ?_
        refine g_ialdK X 5 hNC_2 (shC_2 _) rfl vin_5_7 dX5_all_38 ?_
        exact g_iretR X h dX5_all_39
    · replace h := gF c h
      refine g_bipush X (-2) dX5_all_10 (by decide) ?_
      exact g_iretR X h dX5_all_12

theorem mX5_all {l : Launch} {D : va_G} {cA : Nat → ClassId} {r : Nat → Nat} {v : gV} {x1 : Int32} {xr : Int32} {v' : gV} (h : fX5_all v x1 = some (xr, v')) : Ct l D (tysC cA) (shC cA r) 50 r (ZC r) yX5_all cX5_all 4 (some .int) rmX5_all [.ref (r 0), .int x1] v (some (.int xr)) v' := ct_of plX5 ZC_ok (Nat.le_of_ble_eq_true rfl) rfl (fun _ X => bX5_all_0 X v x1 h)

def rmX5_go : Room := { frames := 5, cells := 0, slots := 0, locals := 122 }

set_option maxHeartbeats 4000000 in
set_option maxRecDepth 100000 in
theorem bX5_go_0 {l : Launch} {D : va_G} {cA : Nat → ClassId} {r : Nat → Nat} {G : gG} {xr : Int32} {v' : gV} (X : XC l D cA r RX5 cX5_go 2 (some .int) rmX5_go (some (.int xr)) v' G) (v : gV) (x1 : Int32) (h : fX5_go v x1 = some (xr, v')) : G v [(0, .ref (r 0)), (1, .int x1)] 0 [] := by
  unfold fX5_go at h
  refine g_iload_n X dX5_go_0 rfl 1 rfl ?_
  refine g_if_lt X 11 dX5_go_1 (by decide) (fun c => ?_) (fun c => ?_)
  · replace h := gTr c h
    refine g_bipush X (-2) dX5_go_11 (by decide) ?_
    exact g_iretR X h dX5_go_13
  · replace h := gF c h
    refine g_iload_n X dX5_go_4 rfl 1 rfl ?_
    refine g_sipush X 200 dX5_go_5 (by decide) ?_
    refine g_icmp_le X 14 dX5_go_8 (by decide) (fun c => ?_) (fun c => ?_)
    · replace h := gTr c h
      refine g_aload_n X dX5_go_14 rfl 0 rfl ?_
      refine g_aload_n X dX5_go_15 rfl 0 rfl ?_
      refine g_get X fl5_9 hNC_0 (shC_0 _) rfl dX5_go_16 ?_
      refine g_iload_n X dX5_go_19 rfl 1 rfl ?_
      refine g_iconst X (-1) dX5_go_20 (by decide) ?_
      refine g_aload_n X dX5_go_21 rfl 0 rfl ?_
      refine g_get X fl5_73 hNC_0 (shC_0 _) rfl dX5_go_22 ?_
      obtain ⟨y1, v2, hc3, h⟩ := gB_inv h
      refine g_callV X (st := []) (st' := [.int y1]) kcX5_runGreedily kvX5_runGreedily kl5_162 (⟨rfl, rfl, by decide, by decide⟩) (mX5_runGreedily gRow_1 hc3) hNC_0 (shC_0 _) rfl rfl rfl (Nat.le_of_ble_eq_true rfl) rfl dX5_go_25 ?_
      exact g_iretR X h dX5_go_28
    · replace h := gF c h
      refine g_bipush X (-2) dX5_go_11 (by decide) ?_
      exact g_iretR X h dX5_go_13

theorem mX5_go {l : Launch} {D : va_G} {cA : Nat → ClassId} {r : Nat → Nat} {v : gV} {x1 : Int32} {xr : Int32} {v' : gV} (h : fX5_go v x1 = some (xr, v')) : Ct l D (tysC cA) (shC cA r) 50 r (ZC r) yX5_go cX5_go 2 (some .int) rmX5_go [.ref (r 0), .int x1] v (some (.int xr)) v' := ct_of plX5 ZC_ok (Nat.le_of_ble_eq_true rfl) rfl (fun _ X => bX5_go_0 X v x1 h)

def rmX5_next : Room := { frames := 5, cells := 0, slots := 0, locals := 122 }

set_option maxHeartbeats 4000000 in
set_option maxRecDepth 100000 in
theorem bX5_next_0 {l : Launch} {D : va_G} {cA : Nat → ClassId} {r : Nat → Nat} {G : gG} {xr : Int32} {v' : gV} (X : XC l D cA r RX5 cX5_next 3 (some .int) rmX5_next (some (.int xr)) v' G) (v : gV) (x1 : Int32) (h : fX5_next v x1 = some (xr, v')) : G v [(0, .ref (r 0)), (1, .int x1)] 0 [] := by
  unfold fX5_next at h
  refine g_iload_n X dX5_next_0 rfl 1 rfl ?_
  refine g_if_lt X 11 dX5_next_1 (by decide) (fun c => ?_) (fun c => ?_)
  · replace h := gTr c h
    refine g_bipush X (-2) dX5_next_11 (by decide) ?_
    exact g_iretR X h dX5_next_13
  · replace h := gF c h
    refine g_iload_n X dX5_next_4 rfl 1 rfl ?_
    refine g_sipush X 200 dX5_next_5 (by decide) ?_
    refine g_icmp_lt X 14 dX5_next_8 (by decide) (fun c => ?_) (fun c => ?_)
    · replace h := gTr c h
      refine g_aload_n X dX5_next_14 rfl 0 rfl ?_
      obtain ⟨y1, v2, hc3, h⟩ := gB_inv h
      refine g_callV X (st := []) (st' := [.ref (r 2)]) kcX5_startThought kvX5_startThought kl5_158 (⟨rfl, rfl, by decide, by decide⟩) (mX5_startThought hc3) hNC_0 (shC_0 _) rfl rfl rfl (Nat.le_of_ble_eq_true rfl) rfl dX5_next_15 ?_
      refine g_astore_n X (ls' := [(2, .ref (r 2)), (0, .ref (r 0)), (1, .int x1)]) dX5_next_18 rfl (by decide) rfl ?_
      refine g_aload_n X dX5_next_19 rfl 1 rfl ?_
      refine g_aload_n X dX5_next_20 rfl 0 rfl ?_
      refine g_iload_n X dX5_next_21 rfl 2 rfl ?_
      refine g_iconst X (-1) dX5_next_22 (by decide) ?_
      refine g_aload_n X dX5_next_23 rfl 1 rfl ?_
      refine g_get X fl5_73 hNC_0 (shC_0 _) rfl dX5_next_24 ?_
      obtain ⟨y4, v5, hc6, h⟩ := gB_inv h
      refine g_callV X (st := []) (st' := [.int y4]) kcX5_runGreedily kvX5_runGreedily kl5_162 (⟨rfl, rfl, by decide, by decide⟩) (mX5_runGreedily gRow_2 hc6) hNC_0 (shC_0 _) rfl rfl rfl (Nat.le_of_ble_eq_true rfl) rfl dX5_next_27 ?_
      refine g_iload_n X dX5_next_30 rfl 2 rfl ?_
      refine g_icmp_ge X 36 dX5_next_31 (by decide) (fun c => ?_) (fun c => ?_)
      · replace h := gTr c h
        refine g_aload_n X dX5_next_36 rfl 1 rfl ?_
        refine g_aload_n X dX5_next_37 rfl 0 rfl ?_
        refine g_iconst X (-1) dX5_next_38 (by decide) ?_
        obtain ⟨y7, v8, hc9, h⟩ := gB_inv h
        refine g_callV X (st := []) (st' := [.int y7]) kcX5_pick kvX5_pick kl5_166 (⟨rfl, rfl, by decide, by decide⟩) (mX5_pick gRow_2 hc9) hNC_0 (shC_0 _) rfl rfl rfl (Nat.le_of_ble_eq_true rfl) rfl dX5_next_39 ?_
        exact g_iretR X h dX5_next_42
      · replace h := gF c h
        refine g_iconst X (-1) dX5_next_34 (by decide) ?_
        exact g_iretR X h dX5_next_35
    · replace h := gF c h
      refine g_bipush X (-2) dX5_next_11 (by decide) ?_
      exact g_iretR X h dX5_next_13

theorem mX5_next {l : Launch} {D : va_G} {cA : Nat → ClassId} {r : Nat → Nat} {v : gV} {x1 : Int32} {xr : Int32} {v' : gV} (h : fX5_next v x1 = some (xr, v')) : Ct l D (tysC cA) (shC cA r) 50 r (ZC r) yX5_next cX5_next 3 (some .int) rmX5_next [.ref (r 0), .int x1] v (some (.int xr)) v' := ct_of plX5 ZC_ok (Nat.le_of_ble_eq_true rfl) rfl (fun _ X => bX5_next_0 X v x1 h)

def HX5_tr (l : Launch) (D : va_G) (cA : Nat → ClassId) (r : Nat → Nat) (rmP : Room) (R : Nat → gV → Int32 → Int32 → Int32 → Int32 → Int32 → Option (Unit × gV)) : Prop :=
  (∀ (v : gV) (x1 : Int32) (x2 : Int32) (x3 : Int32) (x4 : Int32) (xr : Unit) (v' : gV), R 0 v x1 x2 x3 x4 0 = some (xr, v') → Ct l D (tysC cA) (shC cA r) 50 r (ZC r) yX5_tryRows cX5_tryRows 7 none rmP [.ref (r 0), .int x1, .int x2, .int x3, .int x4] v none v') ∧
  (∀ (v : gV) (x1 : Int32) (x2 : Int32) (x3 : Int32) (x4 : Int32) (x5 : Int32) (xr : Unit) (v' : gV), R 1 v x1 x2 x3 x4 x5 = some (xr, v') → Ct l D (tysC cA) (shC cA r) 50 r (ZC r) yX5_tryMove cX5_tryMove 9 none rmP [.ref (r 0), .int x1, .int x2, .int x3, .int x4, .int x5] v none v')

set_option maxHeartbeats 4000000 in
set_option maxRecDepth 100000 in
theorem bX5_tryMove_67 {l : Launch} {D : va_G} {cA : Nat → ClassId} {r : Nat → Nat} {G : gG} {xr : Unit} {v' : gV} {R : Nat → gV → Int32 → Int32 → Int32 → Int32 → Int32 → Option (Unit × gV)} {rmP rm : Room} (X : XC l D cA r RX5 cX5_tryMove 9 none rm none v' G) (HR : HX5_tr l D cA r rmP R) (hrm : ∀ k, k ≤ 20 → gRm rm rmP k) (hbig : gBig rm) (v : gV) (x1 : Int32) (x2 : Int32) (x3 : Int32) (x4 : Int32) (x5 : Int32) (ix6 : Nat) (ix7 : Nat) (s0 : Int32) (hix6 : ix6 < 7) (hix7 : ix7 < 7) (h : fX5_tryMove_67 R v x1 x2 x3 x4 x5 ix6 ix7 s0 = some (xr, v')) : G v [(0, .ref (r 0)), (1, .int x1), (2, .int x2), (3, .int x3), (4, .int x4), (5, .int x5), (6, .ref (r (20 + ix6))), (7, .ref (r (20 + ix7)))] 67 [.int s0] := by
  unfold fX5_tryMove_67 at h
  refine g_istore X (ls' := [(8, .int s0), (0, .ref (r 0)), (1, .int x1), (2, .int x2), (3, .int x3), (4, .int x4), (5, .int x5), (6, .ref (r (20 + ix6))), (7, .ref (r (20 + ix7)))]) dX5_tryMove_67 (by decide) rfl ?_
  refine g_aload X dX5_tryMove_69 7 rfl ?_
  refine g_iconst X 0 dX5_tryMove_71 (by decide) ?_
  refine g_aload X dX5_tryMove_72 8 rfl ?_
  refine g_iconst X 0 dX5_tryMove_74 (by decide) ?_
  refine g_bipush X 7 dX5_tryMove_75 (by decide) ?_
  refine g_copyK X kc_0_0_7_7_7 km5_176 kcopy.1 kcopy.2.1 kcopy.2.2 (shC_ahead_lt hix6) (shC_ahead_lt hix7) (shC_ahead hix6 _) (shC_ahead hix7) rfl rfl (gbig1 hbig) (gbig3 hbig) (Nat.le_of_ble_eq_true rfl) dX5_tryMove_77 ?_
  refine g_aload_n X dX5_tryMove_80 rfl 1 rfl ?_
  refine g_aload X dX5_tryMove_81 8 rfl ?_
  refine g_iload_n X dX5_tryMove_83 rfl 2 rfl ?_
  refine g_aload_n X dX5_tryMove_84 rfl 1 rfl ?_
  refine g_get X fl5_73 hNC_0 (shC_0 _) rfl dX5_tryMove_85 ?_
  obtain ⟨y10, v11, hc12, h⟩ := gB_inv h
  refine g_callV X (st := []) (st' := []) kcX5_make kvX5_make kl5_154 (gRm_big hbig (by decide)) (mX5_make (gRow_ah hix7) hc12) hNC_0 (shC_0 _) rfl rfl rfl (Nat.le_of_ble_eq_true rfl) rfl dX5_tryMove_88 ?_
  refine g_aload_n X dX5_tryMove_91 rfl 1 rfl ?_
  refine g_iload_n X dX5_tryMove_92 rfl 3 rfl ?_
  refine g_iconst X 1 dX5_tryMove_93 (by decide) ?_
  refine g_iadd X dX5_tryMove_94 ?_
  refine g_iload_n X dX5_tryMove_95 rfl 4 rfl ?_
  refine g_iload X dX5_tryMove_96 5 rfl ?_
  refine g_iload X dX5_tryMove_98 0 rfl ?_
  refine g_iadd X dX5_tryMove_100 ?_
  refine g_iload X dX5_tryMove_101 6 rfl ?_
  refine g_bipush X 10 dX5_tryMove_103 (by decide) ?_
  refine g_imul X dX5_tryMove_105 ?_
  refine g_iload_n X dX5_tryMove_106 rfl 2 rfl ?_
  refine g_iadd X dX5_tryMove_107 ?_
  refine g_iconst X 1 dX5_tryMove_108 (by decide) ?_
  refine g_iadd X dX5_tryMove_109 ?_
  obtain ⟨y13, v14, hc15, h⟩ := gB_inv h
  refine g_callV X (st := []) (st' := []) kcX5_tryRows kvX5_tryRows kl5_182 (hrm _ (by decide)) (HR.1 _ _ _ _ _ _ _ hc15) hNC_0 (shC_0 _) rfl rfl rfl (Nat.le_of_ble_eq_true rfl) rfl dX5_tryMove_110 ?_
  exact g_vretR X h dX5_tryMove_113

set_option maxHeartbeats 4000000 in
set_option maxRecDepth 100000 in
theorem bX5_tryMove_0 {l : Launch} {D : va_G} {cA : Nat → ClassId} {r : Nat → Nat} {G : gG} {xr : Unit} {v' : gV} {R : Nat → gV → Int32 → Int32 → Int32 → Int32 → Int32 → Option (Unit × gV)} {rmP rm : Room} (X : XC l D cA r RX5 cX5_tryMove 9 none rm none v' G) (HR : HX5_tr l D cA r rmP R) (hrm : ∀ k, k ≤ 20 → gRm rm rmP k) (hbig : gBig rm) (v : gV) (x1 : Int32) (x2 : Int32) (x3 : Int32) (x4 : Int32) (x5 : Int32) (h : fX5_tryMove R v x1 x2 x3 x4 x5 = some (xr, v')) : G v [(0, .ref (r 0)), (1, .int x1), (2, .int x2), (3, .int x3), (4, .int x4), (5, .int x5)] 0 [] := by
  unfold fX5_tryMove at h
  refine g_iload_n X dX5_tryMove_0 rfl 2 rfl ?_
  refine g_if_lt X 29 dX5_tryMove_1 (by decide) (fun c => ?_) (fun c => ?_)
  · replace h := gTr c h
    exact g_vretR X h dX5_tryMove_29
  · replace h := gF c h
    refine g_iload_n X dX5_tryMove_4 rfl 2 rfl ?_
    refine g_iconst X 1 dX5_tryMove_5 (by decide) ?_
    refine g_iadd X dX5_tryMove_6 ?_
    refine g_aload_n X dX5_tryMove_7 rfl 0 rfl ?_
    refine g_get X fl5_18 hNC_0 (shC_0 _) rfl dX5_tryMove_8 ?_
    refine g_alen X (t0 := 2) 7 hNC_3 (shC_3 _) rfl rfl dX5_tryMove_11 ?_
    refine g_icmp_ge X 29 dX5_tryMove_12 (by decide) (fun c => ?_) (fun c => ?_)
    · replace h := gTr c h
      exact g_vretR X h dX5_tryMove_29
    · replace h := gF c h
      refine g_aload_n X dX5_tryMove_15 rfl 0 rfl ?_
      refine g_aload_n X dX5_tryMove_16 rfl 0 rfl ?_
      refine g_get X fl5_18 hNC_0 (shC_0 _) rfl dX5_tryMove_17 ?_
      refine g_iload_n X dX5_tryMove_20 rfl 2 rfl ?_
      obtain ⟨c1, h⟩ := gGd h
      refine g_aald X (b := r (20 + x2.toNatClampNeg)) (t0 := 2) hNC_3 (shC_3 _) rfl rfl (gin_in c1) rfl dX5_tryMove_21 ?_
      refine g_iload_n X dX5_tryMove_22 rfl 1 rfl ?_
      obtain ⟨y2, v3, hc4, h⟩ := gB_inv h
      refine g_callV X (st := []) (st' := [.int y2]) kcX5_canMake kvX5_canMake kl5_150 (gRm_big hbig (by decide)) (mX5_canMake (gRow_ah (gin_lt c1)) hc4) hNC_0 (shC_0 _) rfl rfl rfl (Nat.le_of_ble_eq_true rfl) rfl dX5_tryMove_23 ?_
      refine g_if_ne X 30 dX5_tryMove_26 (by decide) (fun c => ?_) (fun c => ?_)
      · replace h := gF c h
        refine g_aload_n X dX5_tryMove_30 rfl 0 rfl ?_
        refine g_get X fl5_18 hNC_0 (shC_0 _) rfl dX5_tryMove_31 ?_
        refine g_iload_n X dX5_tryMove_34 rfl 2 rfl ?_
        obtain ⟨c5, h⟩ := gGd h
        refine g_aald X (b := r (20 + x2.toNatClampNeg)) (t0 := 2) hNC_3 (shC_3 _) rfl rfl (gin_in c5) rfl dX5_tryMove_35 ?_
        refine g_astore X (ls' := [(6, .ref (r (20 + x2.toNatClampNeg))), (0, .ref (r 0)), (1, .int x1), (2, .int x2), (3, .int x3), (4, .int x4), (5, .int x5)]) dX5_tryMove_36 (by decide) rfl ?_
        refine g_aload_n X dX5_tryMove_38 rfl 1 rfl ?_
        refine g_get X fl5_18 hNC_0 (shC_0 _) rfl dX5_tryMove_39 ?_
        refine g_iload_n X dX5_tryMove_42 rfl 3 rfl ?_
        refine g_iconst X 1 dX5_tryMove_43 (by decide) ?_
        refine g_iadd X dX5_tryMove_44 ?_
        obtain ⟨c6, h⟩ := gGd h
        refine g_aald X (b := r (20 + (x2 + 1).toNatClampNeg)) (t0 := 2) hNC_3 (shC_3 _) rfl rfl (gin_in c6) rfl dX5_tryMove_45 ?_
        refine g_astore X (ls' := [(7, .ref (r (20 + (x2 + 1).toNatClampNeg))), (6, .ref (r (20 + x2.toNatClampNeg))), (0, .ref (r 0)), (1, .int x1), (2, .int x2), (3, .int x3), (4, .int x4), (5, .int x5)]) dX5_tryMove_46 (by decide) rfl ?_
        refine g_iload_n X dX5_tryMove_48 rfl 3 rfl ?_
        refine g_if_ne X 66 dX5_tryMove_49 (by decide) (fun c => ?_) (fun c => ?_)
        · replace h := gF c h
          refine g_iconst X 0 dX5_tryMove_66 (by decide) ?_
          refine g_sub X [2, 3, 4, 5, 6, 7, 1, 0] (ls' := [(0, .ref (r 0)), (1, .int x1), (2, .int x2), (3, .int x3), (4, .int x4), (5, .int x5), (6, .ref (r (20 + x2.toNatClampNeg))), (7, .ref (r (20 + (x2 + 1).toNatClampNeg)))]) rfl ?_
          exact bX5_tryMove_67 X HR hrm hbig  _ _ _ _ _ _ _ _ _ (gin_lt c5) (gin_lt c6) h
        · replace h := gTr c h
          refine g_aload_n X dX5_tryMove_52 rfl 2 rfl ?_
          refine g_aload_n X dX5_tryMove_53 rfl 2 rfl ?_
          refine g_get X fl5_73 hNC_0 (shC_0 _) rfl dX5_tryMove_54 ?_
          refine g_iconst X 1 dX5_tryMove_57 (by decide) ?_
          refine g_aload X dX5_tryMove_58 1 rfl ?_
          obtain ⟨y7, v8, hc9, h⟩ := gB_inv h
          refine g_callV X (st := []) (st' := [.int y7]) kcX5_says kvX5_says kl5_93 (gRm_big hbig (by decide)) (mX5_says (gRow_ah (gin_lt c5)) hc9) hNC_0 (shC_0 _) rfl rfl rfl (Nat.le_of_ble_eq_true rfl) rfl dX5_tryMove_60 ?_
          refine g_goto X 67 dX5_tryMove_63 (by decide) ?_
          refine g_sub X [2, 3, 4, 5, 6, 7, 1, 0] (ls' := [(0, .ref (r 0)), (1, .int x1), (2, .int x2), (3, .int x3), (4, .int x4), (5, .int x5), (6, .ref (r (20 + x2.toNatClampNeg))), (7, .ref (r (20 + (x2 + 1).toNatClampNeg)))]) rfl ?_
          exact bX5_tryMove_67 X HR hrm hbig  _ _ _ _ _ _ _ _ _ (gin_lt c5) (gin_lt c6) h
      · replace h := gTr c h
        exact g_vretR X h dX5_tryMove_29

theorem moX5_tryMove {l : Launch} {D : va_G} {cA : Nat → ClassId} {r : Nat → Nat} {v : gV} {x1 : Int32} {x2 : Int32} {x3 : Int32} {x4 : Int32} {x5 : Int32} {xr : Unit} {v' : gV} {R : Nat → gV → Int32 → Int32 → Int32 → Int32 → Int32 → Option (Unit × gV)} {rmP rm : Room} (HR : HX5_tr l D cA r rmP R) (hrm : ∀ k, k ≤ 20 → gRm rm rmP k) (hbig : gBig rm) (h : fX5_tryMove R v x1 x2 x3 x4 x5 = some (xr, v')) : Ct l D (tysC cA) (shC cA r) 50 r (ZC r) yX5_tryMove cX5_tryMove 9 none rm [.ref (r 0), .int x1, .int x2, .int x3, .int x4, .int x5] v none v' := ct_of plX5 ZC_ok (Nat.le_of_ble_eq_true rfl) rfl (fun _ X => bX5_tryMove_0 X HR hrm hbig v x1 x2 x3 x4 x5 h)

set_option maxHeartbeats 4000000 in
set_option maxRecDepth 100000 in
theorem bX5_tryRows_48 {l : Launch} {D : va_G} {cA : Nat → ClassId} {r : Nat → Nat} {G : gG} {xr : Unit} {v' : gV} {R : Nat → gV → Int32 → Int32 → Int32 → Int32 → Int32 → Option (Unit × gV)} {rmP rm : Room} (X : XC l D cA r RX5 cX5_tryRows 7 none rm none v' G) (HR : HX5_tr l D cA r rmP R) (hrm : ∀ k, k ≤ 20 → gRm rm rmP k) (hbig : gBig rm) : ∀ (n : Nat) (v : gV) (x1 : Int32) (x2 : Int32) (x3 : Int32) (x4 : Int32) (x5 : Int32) (x6 : Int32), fX5_tryRows_48 R n v x1 x2 x3 x4 x5 x6 = some (xr, v') → G v [(0, .ref (r 0)), (1, .int x1), (2, .int x2), (3, .int x3), (4, .int x4), (5, .int x5), (6, .int x6)] 48 [] := by
  intro n
  induction n with
  | zero => intro v x1 x2 x3 x4 x5 x6 h; rw [fX5_tryRows_48] at h; cases h
  | succ n ih =>
    intro v x1 x2 x3 x4 x5 x6 h
    rw [fX5_tryRows_48] at h
    refine g_iload X dX5_tryRows_48 6 rfl ?_
    refine g_iload X dX5_tryRows_50 5 rfl ?_
    refine g_icmp_gt X 72 dX5_tryRows_52 (by decide) (fun c => ?_) (fun c => ?_)
    · replace h := gTr c h
      exact g_vretR X h dX5_tryRows_72
    · replace h := gF c h
      refine g_aload_n X dX5_tryRows_55 rfl 0 rfl ?_
      refine g_iload X dX5_tryRows_56 6 rfl ?_
      refine g_iload_n X dX5_tryRows_58 rfl 1 rfl ?_
      refine g_iload_n X dX5_tryRows_59 rfl 2 rfl ?_
      refine g_iload_n X dX5_tryRows_60 rfl 3 rfl ?_
      refine g_iload X dX5_tryRows_61 4 rfl ?_
      obtain ⟨y1, v2, hc3, h⟩ := gB_inv h
      refine g_callV X (st := []) (st' := []) kcX5_tryMove kvX5_tryMove kl5_200 (hrm _ (by decide)) (HR.2 _ _ _ _ _ _ _ _ hc3) hNC_0 (shC_0 _) rfl rfl rfl (Nat.le_of_ble_eq_true rfl) rfl dX5_tryRows_63 ?_
      refine g_iinc X (x6 + 1) [(6, .int (x6 + 1)), (0, .ref (r 0)), (1, .int x1), (2, .int x2), (3, .int x3), (4, .int x4), (5, .int x5)] dX5_tryRows_66 6 rfl rfl (by decide) rfl ?_
      refine g_goto X 48 dX5_tryRows_69 (by decide) ?_
      refine g_sub X [1, 2, 3, 4, 5, 6, 0] (ls' := [(0, .ref (r 0)), (1, .int x1), (2, .int x2), (3, .int x3), (4, .int x4), (5, .int x5), (6, .int (x6 + 1))]) rfl ?_
      exact ih _ _ _ _ _ _ _  h

set_option maxHeartbeats 4000000 in
set_option maxRecDepth 100000 in
theorem bX5_tryRows_43 {l : Launch} {D : va_G} {cA : Nat → ClassId} {r : Nat → Nat} {G : gG} {xr : Unit} {v' : gV} {R : Nat → gV → Int32 → Int32 → Int32 → Int32 → Int32 → Option (Unit × gV)} {rmP rm : Room} (X : XC l D cA r RX5 cX5_tryRows 7 none rm none v' G) (HR : HX5_tr l D cA r rmP R) (hrm : ∀ k, k ≤ 20 → gRm rm rmP k) (hbig : gBig rm) (v : gV) (x1 : Int32) (x2 : Int32) (x3 : Int32) (x4 : Int32) (s0 : Int32) (h : fX5_tryRows_43 R v x1 x2 x3 x4 s0 = some (xr, v')) : G v [(0, .ref (r 0)), (1, .int x1), (2, .int x2), (3, .int x3), (4, .int x4)] 43 [.int s0] := by
  unfold fX5_tryRows_43 at h
  refine g_istore X (ls' := [(5, .int s0), (0, .ref (r 0)), (1, .int x1), (2, .int x2), (3, .int x3), (4, .int x4)]) dX5_tryRows_43 (by decide) rfl ?_
  refine g_iconst X 0 dX5_tryRows_45 (by decide) ?_
  refine g_istore X (ls' := [(6, .int 0), (5, .int s0), (0, .ref (r 0)), (1, .int x1), (2, .int x2), (3, .int x3), (4, .int x4)]) dX5_tryRows_46 (by decide) rfl ?_
  refine g_sub X [2, 3, 4, 5, 6, 1, 0] (ls' := [(0, .ref (r 0)), (1, .int x1), (2, .int x2), (3, .int x3), (4, .int x4), (5, .int s0), (6, .int 0)]) rfl ?_
  exact bX5_tryRows_48 X HR hrm hbig  _ _ _ _ _ _ _ _  h

set_option maxHeartbeats 4000000 in
set_option maxRecDepth 100000 in
theorem bX5_tryRows_19 {l : Launch} {D : va_G} {cA : Nat → ClassId} {r : Nat → Nat} {G : gG} {xr : Unit} {v' : gV} {R : Nat → gV → Int32 → Int32 → Int32 → Int32 → Int32 → Option (Unit × gV)} {rmP rm : Room} (X : XC l D cA r RX5 cX5_tryRows 7 none rm none v' G) (HR : HX5_tr l D cA r rmP R) (hrm : ∀ k, k ≤ 20 → gRm rm rmP k) (hbig : gBig rm) (v : gV) (x1 : Int32) (x2 : Int32) (x3 : Int32) (x4 : Int32) (h : fX5_tryRows_19 R v x1 x2 x3 x4 = some (xr, v')) : G v [(0, .ref (r 0)), (1, .int x1), (2, .int x2), (3, .int x3), (4, .int x4)] 19 [] := by
  unfold fX5_tryRows_19 at h
  refine g_iload_n X dX5_tryRows_19 rfl 1 rfl ?_
  refine g_iload_n X dX5_tryRows_20 rfl 2 rfl ?_
  refine g_icmp_lt X 25 dX5_tryRows_21 (by decide) (fun c => ?_) (fun c => ?_)
  · replace h := gTr c h
    refine g_iload_n X dX5_tryRows_25 rfl 1 rfl ?_
    refine g_iconst X 1 dX5_tryRows_26 (by decide) ?_
    refine g_iadd X dX5_tryRows_27 ?_
    refine g_iload_n X dX5_tryRows_28 rfl 2 rfl ?_
    refine g_icmp_ne X 36 dX5_tryRows_29 (by decide) (fun c => ?_) (fun c => ?_)
    · replace h := gF c h
      refine g_aload_n X dX5_tryRows_36 rfl 0 rfl ?_
      refine g_get X fl5_24 hNC_0 (shC_0 _) rfl dX5_tryRows_37 ?_
      refine g_get X fl5_70 hNC_4 (shC_4 _) rfl dX5_tryRows_40 ?_
      exact bX5_tryRows_43 X HR hrm hbig  _ _ _ _ _ _  h
    · replace h := gTr c h
      refine g_iconst X 0 dX5_tryRows_32 (by decide) ?_
      refine g_goto X 43 dX5_tryRows_33 (by decide) ?_
      exact bX5_tryRows_43 X HR hrm hbig  _ _ _ _ _ _  h
  · replace h := gF c h
    exact g_vretR X h dX5_tryRows_24

set_option maxHeartbeats 4000000 in
set_option maxRecDepth 100000 in
theorem bX5_tryRows_0 {l : Launch} {D : va_G} {cA : Nat → ClassId} {r : Nat → Nat} {G : gG} {xr : Unit} {v' : gV} {R : Nat → gV → Int32 → Int32 → Int32 → Int32 → Int32 → Option (Unit × gV)} {rmP rm : Room} (X : XC l D cA r RX5 cX5_tryRows 7 none rm none v' G) (HR : HX5_tr l D cA r rmP R) (hrm : ∀ k, k ≤ 20 → gRm rm rmP k) (hbig : gBig rm) (v : gV) (x1 : Int32) (x2 : Int32) (x3 : Int32) (x4 : Int32) (h : fX5_tryRows R v x1 x2 x3 x4 = some (xr, v')) : G v [(0, .ref (r 0)), (1, .int x1), (2, .int x2), (3, .int x3), (4, .int x4)] 0 [] := by
  unfold fX5_tryRows at h
  refine g_iload_n X dX5_tryRows_0 rfl 3 rfl ?_
  refine g_aload_n X dX5_tryRows_1 rfl 0 rfl ?_
  refine g_get X fl5_170 hNC_0 (shC_0 _) rfl dX5_tryRows_2 ?_
  refine g_icmp_le X 19 dX5_tryRows_5 (by decide) (fun c => ?_) (fun c => ?_)
  · replace h := gTr c h
    exact bX5_tryRows_19 X HR hrm hbig  _ _ _ _ _  h
  · replace h := gF c h
    refine g_aload_n X dX5_tryRows_8 rfl 0 rfl ?_
    refine g_iload_n X dX5_tryRows_9 rfl 3 rfl ?_
    refine g_put X (fsC5 r) fp5_170 hNC_0 (shC_0) (fun _ => rfl) (Nat.le_of_ble_eq_true rfl) dX5_tryRows_10 ?_
    refine g_aload_n X dX5_tryRows_13 rfl 0 rfl ?_
    refine g_iload X dX5_tryRows_14 4 rfl ?_
    refine g_put X (fsC5 r) fp5_173 hNC_0 (shC_0) (fun _ => rfl) (Nat.le_of_ble_eq_true rfl) dX5_tryRows_16 ?_
    exact bX5_tryRows_19 X HR hrm hbig  _ _ _ _ _  h

theorem moX5_tryRows {l : Launch} {D : va_G} {cA : Nat → ClassId} {r : Nat → Nat} {v : gV} {x1 : Int32} {x2 : Int32} {x3 : Int32} {x4 : Int32} {xr : Unit} {v' : gV} {R : Nat → gV → Int32 → Int32 → Int32 → Int32 → Int32 → Option (Unit × gV)} {rmP rm : Room} (HR : HX5_tr l D cA r rmP R) (hrm : ∀ k, k ≤ 20 → gRm rm rmP k) (hbig : gBig rm) (h : fX5_tryRows R v x1 x2 x3 x4 = some (xr, v')) : Ct l D (tysC cA) (shC cA r) 50 r (ZC r) yX5_tryRows cX5_tryRows 7 none rm [.ref (r 0), .int x1, .int x2, .int x3, .int x4] v none v' := ct_of plX5 ZC_ok (Nat.le_of_ble_eq_true rfl) rfl (fun _ X => bX5_tryRows_0 X HR hrm hbig v x1 x2 x3 x4 h)

def rmX5_trN (n : Nat) : Room := { frames := n + 20, cells := 0, slots := 0, locals := 60 * n + 600 }
theorem rmX5_tr_1 (n k : Nat) (h : k ≤ 20) : gRm (rmX5_trN (n + 1)) (rmX5_trN n) k := ⟨rfl, rfl, by show n + 20 + 1 ≤ n + 1 + 20; omega, by show 8 + (k + 11) + (60 * n + 600) ≤ 60 * (n + 1) + 600; omega⟩
theorem rmX5_tr_2 (n : Nat) : gBig (rmX5_trN n) := ⟨by show 20 ≤ n + 20; omega, by show 600 ≤ 60 * n + 600; omega⟩
theorem hX5_tr {l : Launch} {D : va_G} {cA : Nat → ClassId} {r : Nat → Nat} : ∀ n : Nat, HX5_tr l D cA r (rmX5_trN n) (fX5_tr n) := by
  intro n
  induction n with
  | zero =>
    refine ⟨?_, ?_⟩
    · intro v x1 x2 x3 x4 xr v' h
      rw [fX5_tr] at h
      cases h
    · intro v x1 x2 x3 x4 x5 xr v' h
      rw [fX5_tr] at h
      cases h
  | succ n ih =>
    refine ⟨?_, ?_⟩
    · intro v x1 x2 x3 x4 xr v' h
      rw [fX5_tr] at h
      exact moX5_tryRows ih (rmX5_tr_1 n) (rmX5_tr_2 (n + 1)) h
    · intro v x1 x2 x3 x4 x5 xr v' h
      rw [fX5_tr] at h
      exact moX5_tryMove ih (rmX5_tr_1 n) (rmX5_tr_2 (n + 1)) h
def rmX5_tryRows : Room := { frames := 36, cells := 0, slots := 0, locals := 1560 }
theorem mX5_tryRows {l : Launch} {D : va_G} {cA : Nat → ClassId} {r : Nat → Nat} {v : gV} {x1 : Int32} {x2 : Int32} {x3 : Int32} {x4 : Int32} {xr : Unit} {v' : gV} (h : fX5_tr 16 0 v x1 x2 x3 x4 0 = some (xr, v')) : Ct l D (tysC cA) (shC cA r) 50 r (ZC r) yX5_tryRows cX5_tryRows 7 none rmX5_tryRows [.ref (r 0), .int x1, .int x2, .int x3, .int x4] v none v' := (hX5_tr 16).1 v x1 x2 x3 x4 xr v' h
def rmX5_tryMove : Room := { frames := 36, cells := 0, slots := 0, locals := 1560 }
theorem mX5_tryMove {l : Launch} {D : va_G} {cA : Nat → ClassId} {r : Nat → Nat} {v : gV} {x1 : Int32} {x2 : Int32} {x3 : Int32} {x4 : Int32} {x5 : Int32} {xr : Unit} {v' : gV} (h : fX5_tr 16 1 v x1 x2 x3 x4 x5 = some (xr, v')) : Ct l D (tysC cA) (shC cA r) 50 r (ZC r) yX5_tryMove cX5_tryMove 9 none rmX5_tryMove [.ref (r 0), .int x1, .int x2, .int x3, .int x4, .int x5] v none v' := (hX5_tr 16).2 v x1 x2 x3 x4 x5 xr v' h

def rmX5_best : Room := { frames := 37, cells := 0, slots := 0, locals := 1586 }

set_option maxHeartbeats 4000000 in
set_option maxRecDepth 100000 in
theorem bX5_best_0 {l : Launch} {D : va_G} {cA : Nat → ClassId} {r : Nat → Nat} {G : gG} {xr : Int32} {v' : gV} (X : XC l D cA r RX5 cX5_best 3 (some .int) rmX5_best (some (.int xr)) v' G) (v : gV) (x1 : Int32) (x2 : Int32) (h : fX5_best v x1 x2 = some (xr, v')) : G v [(0, .ref (r 0)), (1, .int x1), (2, .int x2)] 0 [] := by
  unfold fX5_best at h
  refine g_iload_n X dX5_best_0 rfl 1 rfl ?_
  refine g_if_lt X 19 dX5_best_1 (by decide) (fun c => ?_) (fun c => ?_)
  · replace h := gTr c h
    refine g_bipush X (-2) dX5_best_19 (by decide) ?_
    exact g_iretR X h dX5_best_21
  · replace h := gF c h
    refine g_iload_n X dX5_best_4 rfl 1 rfl ?_
    refine g_bipush X 6 dX5_best_5 (by decide) ?_
    refine g_icmp_gt X 19 dX5_best_7 (by decide) (fun c => ?_) (fun c => ?_)
    · replace h := gTr c h
      refine g_bipush X (-2) dX5_best_19 (by decide) ?_
      exact g_iretR X h dX5_best_21
    · replace h := gF c h
      refine g_iload_n X dX5_best_10 rfl 2 rfl ?_
      refine g_if_lt X 19 dX5_best_11 (by decide) (fun c => ?_) (fun c => ?_)
      · replace h := gTr c h
        refine g_bipush X (-2) dX5_best_19 (by decide) ?_
        exact g_iretR X h dX5_best_21
      · replace h := gF c h
        refine g_iload_n X dX5_best_14 rfl 2 rfl ?_
        refine g_iconst X 1 dX5_best_15 (by decide) ?_
        refine g_icmp_le X 22 dX5_best_16 (by decide) (fun c => ?_) (fun c => ?_)
        · replace h := gTr c h
          refine g_aload_n X dX5_best_22 rfl 0 rfl ?_
          refine g_iconst X 0 dX5_best_23 (by decide) ?_
          refine g_put X (fsC5 r) fp5_170 hNC_0 (shC_0) (fun _ => rfl) (Nat.le_of_ble_eq_true rfl) dX5_best_24 ?_
          refine g_aload_n X dX5_best_27 rfl 0 rfl ?_
          refine g_iconst X 0 dX5_best_28 (by decide) ?_
          refine g_put X (fsC5 r) fp5_173 hNC_0 (shC_0) (fun _ => rfl) (Nat.le_of_ble_eq_true rfl) dX5_best_29 ?_
          refine g_aload_n X dX5_best_32 rfl 0 rfl ?_
          refine g_get X fl5_9 hNC_0 (shC_0 _) rfl dX5_best_33 ?_
          refine g_iconst X 0 dX5_best_36 (by decide) ?_
          refine g_aload_n X dX5_best_37 rfl 0 rfl ?_
          refine g_get X fl5_18 hNC_0 (shC_0 _) rfl dX5_best_38 ?_
          refine g_iconst X 0 dX5_best_41 (by decide) ?_
          refine g_aald X (b := r (20 + 0)) (t0 := 2) hNC_3 (shC_3 _) rfl rfl vin_0_7.1 (by first | (rw [vin_0_7.2]; rfl) | rw [vin_0_7.2]) dX5_best_42 ?_
          refine g_iconst X 0 dX5_best_43 (by decide) ?_
          refine g_bipush X 7 dX5_best_44 (by decide) ?_
          refine g_copyK X kc_0_0_7_7_7 km5_176 kcopy.1 kcopy.2.1 kcopy.2.2 hNC_1 (shC_ahead_lt (by decide)) (shC_1 _) (shC_ahead (by decide)) rfl rfl (by decide) (by decide) (Nat.le_of_ble_eq_true rfl) dX5_best_46 ?_
          refine g_aload_n X dX5_best_49 rfl 0 rfl ?_
          refine g_iconst X 0 dX5_best_50 (by decide) ?_
          refine g_iload_n X dX5_best_51 rfl 1 rfl ?_
          refine g_iconst X 0 dX5_best_52 (by decide) ?_
          refine g_iconst X 0 dX5_best_53 (by decide) ?_
          obtain ⟨y1, v2, hc3, h⟩ := gB_inv h
          refine g_callV X (st := []) (st' := []) kcX5_tryRows kvX5_tryRows kl5_182 (⟨rfl, rfl, by decide, by decide⟩) (mX5_tryRows hc3) hNC_0 (shC_0 _) rfl rfl rfl (Nat.le_of_ble_eq_true rfl) rfl dX5_best_54 ?_
          refine g_iload_n X dX5_best_57 rfl 2 rfl ?_
          refine g_if_ne X 68 dX5_best_58 (by decide) (fun c => ?_) (fun c => ?_)
          · replace h := gF c h
            refine g_aload_n X dX5_best_68 rfl 0 rfl ?_
            refine g_get X fl5_173 hNC_0 (shC_0 _) rfl dX5_best_69 ?_
            exact g_iretR X h dX5_best_72
          · replace h := gTr c h
            refine g_aload_n X dX5_best_61 rfl 0 rfl ?_
            refine g_get X fl5_170 hNC_0 (shC_0 _) rfl dX5_best_62 ?_
            refine g_goto X 72 dX5_best_65 (by decide) ?_
            exact g_iretR X h dX5_best_72
        · replace h := gF c h
          refine g_bipush X (-2) dX5_best_19 (by decide) ?_
          exact g_iretR X h dX5_best_21

theorem mX5_best {l : Launch} {D : va_G} {cA : Nat → ClassId} {r : Nat → Nat} {v : gV} {x1 : Int32} {x2 : Int32} {xr : Int32} {v' : gV} (h : fX5_best v x1 x2 = some (xr, v')) : Ct l D (tysC cA) (shC cA r) 50 r (ZC r) yX5_best cX5_best 3 (some .int) rmX5_best [.ref (r 0), .int x1, .int x2] v (some (.int xr)) v' := ct_of plX5 ZC_ok (Nat.le_of_ble_eq_true rfl) rfl (fun _ X => bX5_best_0 X v x1 x2 h)

def rmX5_endWith : Room := { frames := 5, cells := 0, slots := 0, locals := 122 }

set_option maxHeartbeats 4000000 in
set_option maxRecDepth 100000 in
theorem bX5_endWith_0 {l : Launch} {D : va_G} {cA : Nat → ClassId} {r : Nat → Nat} {G : gG} {xr : Unit} {v' : gV} (X : XC l D cA r RX5 cX5_endWith 3 (some (.array .int)) rmX5_endWith (some (.ref (r 2))) v' G) (v : gV) (x1 : Int32) (h : fX5_endWith v x1 = some (xr, v')) : G v [(0, .ref (r 0)), (1, .int x1)] 0 [] := by
  unfold fX5_endWith at h
  refine g_aload_n X dX5_endWith_0 rfl 0 rfl ?_
  obtain ⟨y1, v2, hc3, h⟩ := gB_inv h
  refine g_callV X (st := []) (st' := [.ref (r 2)]) kcX5_startThought kvX5_startThought kl5_158 (⟨rfl, rfl, by decide, by decide⟩) (mX5_startThought hc3) hNC_0 (shC_0 _) rfl rfl rfl (Nat.le_of_ble_eq_true rfl) rfl dX5_endWith_1 ?_
  refine g_astore_n X (ls' := [(2, .ref (r 2)), (0, .ref (r 0)), (1, .int x1)]) dX5_endWith_4 rfl (by decide) rfl ?_
  refine g_aload_n X dX5_endWith_5 rfl 0 rfl ?_
  refine g_iconst X 0 dX5_endWith_6 (by decide) ?_
  refine g_iload_n X dX5_endWith_7 rfl 2 rfl ?_
  refine g_iastK X 0 hNC_2 (shC_2) rfl vin_0_7 dX5_endWith_8 ?_
  refine g_aload_n X dX5_endWith_9 rfl 1 rfl ?_
  refine g_aload_n X dX5_endWith_10 rfl 0 rfl ?_
  refine g_sipush X 200 dX5_endWith_11 (by decide) ?_
  refine g_iconst X (-1) dX5_endWith_14 (by decide) ?_
  refine g_aload_n X dX5_endWith_15 rfl 1 rfl ?_
  refine g_get X fl5_73 hNC_0 (shC_0 _) rfl dX5_endWith_16 ?_
  obtain ⟨y4, v5, hc6, h⟩ := gB_inv h
  refine g_callV X (st := []) (st' := [.int y4]) kcX5_runGreedily kvX5_runGreedily kl5_162 (⟨rfl, rfl, by decide, by decide⟩) (mX5_runGreedily gRow_2 hc6) hNC_0 (shC_0 _) rfl rfl rfl (Nat.le_of_ble_eq_true rfl) rfl dX5_endWith_19 ?_
  refine g_pop X dX5_endWith_22 rfl ?_
  refine g_aload_n X dX5_endWith_23 rfl 0 rfl ?_
  exact g_aretR X h dX5_endWith_24

theorem mX5_endWith {l : Launch} {D : va_G} {cA : Nat → ClassId} {r : Nat → Nat} {v : gV} {x1 : Int32} {xr : Unit} {v' : gV} (h : fX5_endWith v x1 = some (xr, v')) : Ct l D (tysC cA) (shC cA r) 50 r (ZC r) yX5_endWith cX5_endWith 3 (some (.array .int)) rmX5_endWith [.ref (r 0), .int x1] v (some (.ref (r 2))) v' := ct_of plX5 ZC_ok (Nat.le_of_ble_eq_true rfl) rfl (fun _ X => bX5_endWith_0 X v x1 h)

def rmX5_least : Room := { frames := 6, cells := 0, slots := 0, locals := 144 }

set_option maxHeartbeats 4000000 in
set_option maxRecDepth 100000 in
theorem bX5_least_85 {l : Launch} {D : va_G} {cA : Nat → ClassId} {r : Nat → Nat} {G : gG} {xr : Int32} {v' : gV} {k25 : gV → Int32 → Int32 → Int32 → Option (Int32 × gV)} (X : XC l D cA r RX5 cX5_least 6 (some .int) rmX5_least (some (.int xr)) v' G) (K25 : ∀ (v : gV) (x1 : Int32) (x2 : Int32) (x3 : Int32), k25 v x1 x2 x3 = some (xr, v') → G v [(0, .ref (r 0)), (1, .int x1), (2, .int x2), (3, .int x3)] 25 []) (v : gV) (x1 : Int32) (x2 : Int32) (x3 : Int32) (h : fX5_least_85 k25 v x1 x2 x3 = some (xr, v')) : G v [(0, .ref (r 0)), (1, .int x1), (2, .int x2), (3, .int x3)] 85 [] := by
  unfold fX5_least_85 at h
  refine g_iinc X (x3 + 1) [(3, .int (x3 + 1)), (0, .ref (r 0)), (1, .int x1), (2, .int x2)] dX5_least_85 3 rfl rfl (by decide) rfl ?_
  refine g_goto X 25 dX5_least_88 (by decide) ?_
  refine g_sub X [1, 2, 3, 0] (ls' := [(0, .ref (r 0)), (1, .int x1), (2, .int x2), (3, .int (x3 + 1))]) rfl ?_
  exact K25 _ _ _ _  h

set_option maxHeartbeats 4000000 in
set_option maxRecDepth 100000 in
theorem bX5_least_64 {l : Launch} {D : va_G} {cA : Nat → ClassId} {r : Nat → Nat} {G : gG} {xr : Int32} {v' : gV} {k25 : gV → Int32 → Int32 → Int32 → Option (Int32 × gV)} (X : XC l D cA r RX5 cX5_least 6 (some .int) rmX5_least (some (.int xr)) v' G) (K25 : ∀ (v : gV) (x1 : Int32) (x2 : Int32) (x3 : Int32), k25 v x1 x2 x3 = some (xr, v') → G v [(0, .ref (r 0)), (1, .int x1), (2, .int x2), (3, .int x3)] 25 []) (v : gV) (x1 : Int32) (x2 : Int32) (x3 : Int32) (s0 : Int32) (h : fX5_least_64 k25 v x1 x2 x3 s0 = some (xr, v')) : G v [(0, .ref (r 0)), (1, .int x1), (2, .int x2), (3, .int x3), (4, .ref (r 2))] 64 [.int s0] := by
  unfold fX5_least_64 at h
  refine g_istore X (ls' := [(5, .int s0), (0, .ref (r 0)), (1, .int x1), (2, .int x2), (3, .int x3), (4, .ref (r 2))]) dX5_least_64 (by decide) rfl ?_
  refine g_aload X dX5_least_66 5 rfl ?_
  refine g_iconst X 5 dX5_least_68 (by decide) ?_
  refine g_ialdK X 5 hNC_2 (shC_2 _) rfl vin_5_7 dX5_least_69 ?_
  refine g_iload_n X dX5_least_70 rfl 2 rfl ?_
  refine g_icmp_lt X 85 dX5_least_71 (by decide) (fun c => ?_) (fun c => ?_)
  · replace h := gTr c h
    refine g_sub X [1, 2, 3, 4] (ls' := [(0, .ref (r 0)), (1, .int x1), (2, .int x2), (3, .int x3)]) rfl ?_
    exact bX5_least_85 X K25 _ _ _ _  h
  · replace h := gF c h
    refine g_iload_n X dX5_least_74 rfl 3 rfl ?_
    refine g_if_eq X 83 dX5_least_75 (by decide) (fun c => ?_) (fun c => ?_)
    · replace h := gTr c h
      refine g_iload_n X dX5_least_83 rfl 4 rfl ?_
      exact g_iretR X h dX5_least_84
    · replace h := gF c h
      refine g_iload X dX5_least_78 0 rfl ?_
      refine g_if_eq X 85 dX5_least_80 (by decide) (fun c => ?_) (fun c => ?_)
      · replace h := gTr c h
        refine g_sub X [1, 2, 3, 4] (ls' := [(0, .ref (r 0)), (1, .int x1), (2, .int x2), (3, .int x3)]) rfl ?_
        exact bX5_least_85 X K25 _ _ _ _  h
      · replace h := gF c h
        refine g_iload_n X dX5_least_83 rfl 4 rfl ?_
        exact g_iretR X h dX5_least_84

set_option maxHeartbeats 4000000 in
set_option maxRecDepth 100000 in
theorem bX5_least_63 {l : Launch} {D : va_G} {cA : Nat → ClassId} {r : Nat → Nat} {G : gG} {xr : Int32} {v' : gV} {k25 : gV → Int32 → Int32 → Int32 → Option (Int32 × gV)} (X : XC l D cA r RX5 cX5_least 6 (some .int) rmX5_least (some (.int xr)) v' G) (K25 : ∀ (v : gV) (x1 : Int32) (x2 : Int32) (x3 : Int32), k25 v x1 x2 x3 = some (xr, v') → G v [(0, .ref (r 0)), (1, .int x1), (2, .int x2), (3, .int x3)] 25 []) (v : gV) (x1 : Int32) (x2 : Int32) (x3 : Int32) (h : fX5_least_63 k25 v x1 x2 x3 = some (xr, v')) : G v [(0, .ref (r 0)), (1, .int x1), (2, .int x2), (3, .int x3), (4, .ref (r 2))] 63 [] := by
  unfold fX5_least_63 at h
  refine g_iconst X 0 dX5_least_63 (by decide) ?_
  exact bX5_least_64 X K25 _ _ _ _ _  h

set_option maxHeartbeats 4000000 in
set_option maxRecDepth 100000 in
theorem bX5_least_25 {l : Launch} {D : va_G} {cA : Nat → ClassId} {r : Nat → Nat} {G : gG} {xr : Int32} {v' : gV} (X : XC l D cA r RX5 cX5_least 6 (some .int) rmX5_least (some (.int xr)) v' G) : ∀ (n : Nat) (v : gV) (x1 : Int32) (x2 : Int32) (x3 : Int32), fX5_least_25 n v x1 x2 x3 = some (xr, v') → G v [(0, .ref (r 0)), (1, .int x1), (2, .int x2), (3, .int x3)] 25 [] := by
  intro n
  induction n with
  | zero => intro v x1 x2 x3 h; rw [fX5_least_25] at h; cases h
  | succ n ih =>
    intro v x1 x2 x3 h
    rw [fX5_least_25] at h
    refine g_iload_n X dX5_least_25 rfl 3 rfl ?_
    refine g_bipush X 60 dX5_least_26 (by decide) ?_
    refine g_icmp_gt X 91 dX5_least_28 (by decide) (fun c => ?_) (fun c => ?_)
    · replace h := gTr c h
      refine g_iconst X (-1) dX5_least_91 (by decide) ?_
      exact g_iretR X h dX5_least_92
    · replace h := gF c h
      refine g_aload_n X dX5_least_31 rfl 0 rfl ?_
      refine g_iload_n X dX5_least_32 rfl 3 rfl ?_
      obtain ⟨y1, v2, hc3, h⟩ := gB_inv h
      refine g_callV X (st := []) (st' := [.ref (r 2)]) kcX5_endWith kvX5_endWith kl5_204 (⟨rfl, rfl, by decide, by decide⟩) (mX5_endWith hc3) hNC_0 (shC_0 _) rfl rfl rfl (Nat.le_of_ble_eq_true rfl) rfl dX5_least_33 ?_
      refine g_astore X (ls' := [(4, .ref (r 2)), (0, .ref (r 0)), (1, .int x1), (2, .int x2), (3, .int x3)]) dX5_least_36 (by decide) rfl ?_
      refine g_aload X dX5_least_38 0 rfl ?_
      refine g_iconst X 0 dX5_least_40 (by decide) ?_
      refine g_ialdK X 0 hNC_2 (shC_2 _) rfl vin_0_7 dX5_least_41 ?_
      refine g_if_ne X 63 dX5_least_42 (by decide) (fun c => ?_) (fun c => ?_)
      · replace h := gF c h
        refine g_sub X [1, 2, 3, 4, 0] (ls' := [(0, .ref (r 0)), (1, .int x1), (2, .int x2), (3, .int x3), (4, .ref (r 2))]) rfl ?_
        exact bX5_least_63 X ih _ _ _ _  h
      · replace h := gTr c h
        refine g_aload X dX5_least_45 0 rfl ?_
        refine g_iconst X 1 dX5_least_47 (by decide) ?_
        refine g_ialdK X 1 hNC_2 (shC_2 _) rfl vin_1_7 dX5_least_48 ?_
        refine g_if_ne X 63 dX5_least_49 (by decide) (fun c => ?_) (fun c => ?_)
        · replace h := gF c h
          refine g_sub X [1, 2, 3, 4, 0] (ls' := [(0, .ref (r 0)), (1, .int x1), (2, .int x2), (3, .int x3), (4, .ref (r 2))]) rfl ?_
          exact bX5_least_63 X ih _ _ _ _  h
        · replace h := gTr c h
          refine g_aload X dX5_least_52 0 rfl ?_
          refine g_iconst X 4 dX5_least_54 (by decide) ?_
          refine g_ialdK X 4 hNC_2 (shC_2 _) rfl vin_4_7 dX5_least_55 ?_
          refine g_if_ne X 63 dX5_least_56 (by decide) (fun c => ?_) (fun c => ?_)
          · replace h := gF c h
            refine g_sub X [1, 2, 3, 4, 0] (ls' := [(0, .ref (r 0)), (1, .int x1), (2, .int x2), (3, .int x3), (4, .ref (r 2))]) rfl ?_
            exact bX5_least_63 X ih _ _ _ _  h
          · replace h := gTr c h
            refine g_iconst X 1 dX5_least_59 (by decide) ?_
            refine g_goto X 64 dX5_least_60 (by decide) ?_
            refine g_sub X [1, 2, 3, 4, 0] (ls' := [(0, .ref (r 0)), (1, .int x1), (2, .int x2), (3, .int x3), (4, .ref (r 2))]) rfl ?_
            exact bX5_least_64 X ih _ _ _ _ _  h

set_option maxHeartbeats 4000000 in
set_option maxRecDepth 100000 in
theorem bX5_least_0 {l : Launch} {D : va_G} {cA : Nat → ClassId} {r : Nat → Nat} {G : gG} {xr : Int32} {v' : gV} (X : XC l D cA r RX5 cX5_least 6 (some .int) rmX5_least (some (.int xr)) v' G) (v : gV) (x1 : Int32) (x2 : Int32) (h : fX5_least v x1 x2 = some (xr, v')) : G v [(0, .ref (r 0)), (1, .int x1), (2, .int x2)] 0 [] := by
  unfold fX5_least at h
  refine g_iload_n X dX5_least_0 rfl 1 rfl ?_
  refine g_if_lt X 20 dX5_least_1 (by decide) (fun c => ?_) (fun c => ?_)
  · replace h := gTr c h
    refine g_bipush X (-2) dX5_least_20 (by decide) ?_
    exact g_iretR X h dX5_least_22
  · replace h := gF c h
    refine g_iload_n X dX5_least_4 rfl 1 rfl ?_
    refine g_sipush X 999 dX5_least_5 (by decide) ?_
    refine g_icmp_gt X 20 dX5_least_8 (by decide) (fun c => ?_) (fun c => ?_)
    · replace h := gTr c h
      refine g_bipush X (-2) dX5_least_20 (by decide) ?_
      exact g_iretR X h dX5_least_22
    · replace h := gF c h
      refine g_iload_n X dX5_least_11 rfl 2 rfl ?_
      refine g_if_lt X 20 dX5_least_12 (by decide) (fun c => ?_) (fun c => ?_)
      · replace h := gTr c h
        refine g_bipush X (-2) dX5_least_20 (by decide) ?_
        exact g_iretR X h dX5_least_22
      · replace h := gF c h
        refine g_iload_n X dX5_least_15 rfl 2 rfl ?_
        refine g_iconst X 1 dX5_least_16 (by decide) ?_
        refine g_icmp_le X 23 dX5_least_17 (by decide) (fun c => ?_) (fun c => ?_)
        · replace h := gTr c h
          refine g_iconst X 0 dX5_least_23 (by decide) ?_
          refine g_istore_n X (ls' := [(3, .int 0), (0, .ref (r 0)), (1, .int x1), (2, .int x2)]) dX5_least_24 rfl (by decide) rfl ?_
          refine g_sub X [1, 2, 3, 0] (ls' := [(0, .ref (r 0)), (1, .int x1), (2, .int x2), (3, .int 0)]) rfl ?_
          exact bX5_least_25 X  _ _ _ _ _  h
        · replace h := gF c h
          refine g_bipush X (-2) dX5_least_20 (by decide) ?_
          exact g_iretR X h dX5_least_22

theorem mX5_least {l : Launch} {D : va_G} {cA : Nat → ClassId} {r : Nat → Nat} {v : gV} {x1 : Int32} {x2 : Int32} {xr : Int32} {v' : gV} (h : fX5_least v x1 x2 = some (xr, v')) : Ct l D (tysC cA) (shC cA r) 50 r (ZC r) yX5_least cX5_least 6 (some .int) rmX5_least [.ref (r 0), .int x1, .int x2] v (some (.int xr)) v' := ct_of plX5 ZC_ok (Nat.le_of_ble_eq_true rfl) rfl (fun _ X => bX5_least_0 X v x1 x2 h)

def rmX5_bought : Room := { frames := 6, cells := 0, slots := 0, locals := 144 }

set_option maxHeartbeats 4000000 in
set_option maxRecDepth 100000 in
theorem bX5_bought_69 {l : Launch} {D : va_G} {cA : Nat → ClassId} {r : Nat → Nat} {G : gG} {xr : Int64} {v' : gV} {k31 : gV → Int32 → Int32 → Int64 → Int32 → Option (Int64 × gV)} (X : XC l D cA r RX5 cX5_bought 7 (some .long) rmX5_bought (some (.long xr)) v' G) (K31 : ∀ (v : gV) (x1 : Int32) (x2 : Int32) (x3 : Int64) (x5 : Int32), k31 v x1 x2 x3 x5 = some (xr, v') → G v [(0, .ref (r 0)), (1, .int x1), (2, .int x2), (3, .long x3), (5, .int x5)] 31 []) (v : gV) (x1 : Int32) (x2 : Int32) (x3 : Int64) (x5 : Int32) (h : fX5_bought_69 k31 v x1 x2 x3 x5 = some (xr, v')) : G v [(0, .ref (r 0)), (1, .int x1), (2, .int x2), (3, .long x3), (5, .int x5)] 69 [] := by
  unfold fX5_bought_69 at h
  refine g_iinc X (x5 + 1) [(5, .int (x5 + 1)), (0, .ref (r 0)), (1, .int x1), (2, .int x2), (3, .long x3)] dX5_bought_69 4 rfl rfl (by decide) rfl ?_
  refine g_goto X 31 dX5_bought_72 (by decide) ?_
  refine g_sub X [1, 2, 3, 4, 0] (ls' := [(0, .ref (r 0)), (1, .int x1), (2, .int x2), (3, .long x3), (5, .int (x5 + 1))]) rfl ?_
  exact K31 _ _ _ _ _  h

set_option maxHeartbeats 4000000 in
set_option maxRecDepth 100000 in
theorem bX5_bought_31 {l : Launch} {D : va_G} {cA : Nat → ClassId} {r : Nat → Nat} {G : gG} {xr : Int64} {v' : gV} (X : XC l D cA r RX5 cX5_bought 7 (some .long) rmX5_bought (some (.long xr)) v' G) : ∀ (n : Nat) (v : gV) (x1 : Int32) (x2 : Int32) (x3 : Int64) (x5 : Int32), fX5_bought_31 n v x1 x2 x3 x5 = some (xr, v') → G v [(0, .ref (r 0)), (1, .int x1), (2, .int x2), (3, .long x3), (5, .int x5)] 31 [] := by
  intro n
  induction n with
  | zero => intro v x1 x2 x3 x5 h; rw [fX5_bought_31] at h; cases h
  | succ n ih =>
    intro v x1 x2 x3 x5 h
    rw [fX5_bought_31] at h
    refine g_iload X dX5_bought_31 4 rfl ?_
    refine g_bipush X 60 dX5_bought_33 (by decide) ?_
    refine g_icmp_gt X 75 dX5_bought_35 (by decide) (fun c => ?_) (fun c => ?_)
    · replace h := gTr c h
      refine g_lload_n X dX5_bought_75 rfl 3 rfl ?_
      exact g_lretR X h dX5_bought_76
    · replace h := gF c h
      refine g_aload_n X dX5_bought_38 rfl 0 rfl ?_
      refine g_iload X dX5_bought_39 4 rfl ?_
      obtain ⟨y1, v2, hc3, h⟩ := gB_inv h
      refine g_callV X (st := []) (st' := [.ref (r 2)]) kcX5_endWith kvX5_endWith kl5_204 (⟨rfl, rfl, by decide, by decide⟩) (mX5_endWith hc3) hNC_0 (shC_0 _) rfl rfl rfl (Nat.le_of_ble_eq_true rfl) rfl dX5_bought_41 ?_
      refine g_astore X (ls' := [(6, .ref (r 2)), (0, .ref (r 0)), (1, .int x1), (2, .int x2), (3, .long x3), (5, .int x5)]) dX5_bought_44 (by decide) rfl ?_
      refine g_aload X dX5_bought_46 0 rfl ?_
      refine g_iconst X 5 dX5_bought_48 (by decide) ?_
      refine g_ialdK X 5 hNC_2 (shC_2 _) rfl vin_5_7 dX5_bought_49 ?_
      refine g_iload_n X dX5_bought_50 rfl 2 rfl ?_
      refine g_icmp_ne X 69 dX5_bought_51 (by decide) (fun c => ?_) (fun c => ?_)
      · replace h := gF c h
        refine g_sub X [1, 2, 3, 4, 5] (ls' := [(0, .ref (r 0)), (1, .int x1), (2, .int x2), (3, .long x3), (5, .int x5)]) rfl ?_
        exact bX5_bought_69 X ih _ _ _ _ _  h
      · replace h := gTr c h
        refine g_aload X dX5_bought_54 0 rfl ?_
        refine g_iconst X 1 dX5_bought_56 (by decide) ?_
        refine g_ialdK X 1 hNC_2 (shC_2 _) rfl vin_1_7 dX5_bought_57 ?_
        refine g_iload_n X dX5_bought_58 rfl 3 rfl ?_
        refine g_icmp_ne X 69 dX5_bought_59 (by decide) (fun c => ?_) (fun c => ?_)
        · replace h := gF c h
          refine g_sub X [1, 2, 3, 4, 5] (ls' := [(0, .ref (r 0)), (1, .int x1), (2, .int x2), (3, .long x3), (5, .int x5)]) rfl ?_
          exact bX5_bought_69 X ih _ _ _ _ _  h
        · replace h := gTr c h
          refine g_lload_n X dX5_bought_62 rfl 4 rfl ?_
          refine g_lconst X 1 dX5_bought_63 (by decide) ?_
          refine g_iload X dX5_bought_64 5 rfl ?_
          refine g_lshl X dX5_bought_66 ?_
          refine g_lor X dX5_bought_67 ?_
          refine g_lstore_n X (ls' := [(3, .long (x3 ||| (1 <<< (x5.toInt64 &&& 63)))), (6, .ref (r 2)), (0, .ref (r 0)), (1, .int x1), (2, .int x2), (5, .int x5)]) dX5_bought_68 rfl (by decide) rfl ?_
          refine g_sub X [2, 3, 4, 0, 5] (ls' := [(0, .ref (r 0)), (1, .int x1), (2, .int x2), (3, .long (x3 ||| (1 <<< (x5.toInt64 &&& 63)))), (5, .int x5)]) rfl ?_
          exact bX5_bought_69 X ih _ _ _ _ _  h

set_option maxHeartbeats 4000000 in
set_option maxRecDepth 100000 in
theorem bX5_bought_0 {l : Launch} {D : va_G} {cA : Nat → ClassId} {r : Nat → Nat} {G : gG} {xr : Int64} {v' : gV} (X : XC l D cA r RX5 cX5_bought 7 (some .long) rmX5_bought (some (.long xr)) v' G) (v : gV) (x1 : Int32) (x2 : Int32) (h : fX5_bought v x1 x2 = some (xr, v')) : G v [(0, .ref (r 0)), (1, .int x1), (2, .int x2)] 0 [] := by
  unfold fX5_bought at h
  refine g_iload_n X dX5_bought_0 rfl 1 rfl ?_
  refine g_if_lt X 22 dX5_bought_1 (by decide) (fun c => ?_) (fun c => ?_)
  · replace h := gTr c h
    refine g_ldc2 X kk5_208 dX5_bought_22 ?_
    exact g_lretR X h dX5_bought_25
  · replace h := gF c h
    refine g_iload_n X dX5_bought_4 rfl 1 rfl ?_
    refine g_sipush X 999 dX5_bought_5 (by decide) ?_
    refine g_icmp_gt X 22 dX5_bought_8 (by decide) (fun c => ?_) (fun c => ?_)
    · replace h := gTr c h
      refine g_ldc2 X kk5_208 dX5_bought_22 ?_
      exact g_lretR X h dX5_bought_25
    · replace h := gF c h
      refine g_iload_n X dX5_bought_11 rfl 2 rfl ?_
      refine g_if_lt X 22 dX5_bought_12 (by decide) (fun c => ?_) (fun c => ?_)
      · replace h := gTr c h
        refine g_ldc2 X kk5_208 dX5_bought_22 ?_
        exact g_lretR X h dX5_bought_25
      · replace h := gF c h
        refine g_iload_n X dX5_bought_15 rfl 2 rfl ?_
        refine g_sipush X 999 dX5_bought_16 (by decide) ?_
        refine g_icmp_le X 26 dX5_bought_19 (by decide) (fun c => ?_) (fun c => ?_)
        · replace h := gTr c h
          refine g_lconst X 0 dX5_bought_26 (by decide) ?_
          refine g_lstore_n X (ls' := [(3, .long 0), (0, .ref (r 0)), (1, .int x1), (2, .int x2)]) dX5_bought_27 rfl (by decide) rfl ?_
          refine g_iconst X 0 dX5_bought_28 (by decide) ?_
          refine g_istore X (ls' := [(5, .int 0), (3, .long 0), (0, .ref (r 0)), (1, .int x1), (2, .int x2)]) dX5_bought_29 (by decide) rfl ?_
          refine g_sub X [2, 3, 4, 1, 0] (ls' := [(0, .ref (r 0)), (1, .int x1), (2, .int x2), (3, .long 0), (5, .int 0)]) rfl ?_
          exact bX5_bought_31 X  _ _ _ _ _ _  h
        · replace h := gF c h
          refine g_ldc2 X kk5_208 dX5_bought_22 ?_
          exact g_lretR X h dX5_bought_25

theorem mX5_bought {l : Launch} {D : va_G} {cA : Nat → ClassId} {r : Nat → Nat} {v : gV} {x1 : Int32} {x2 : Int32} {xr : Int64} {v' : gV} (h : fX5_bought v x1 x2 = some (xr, v')) : Ct l D (tysC cA) (shC cA r) 50 r (ZC r) yX5_bought cX5_bought 7 (some .long) rmX5_bought [.ref (r 0), .int x1, .int x2] v (some (.long xr)) v' := ct_of plX5 ZC_ok (Nat.le_of_ble_eq_true rfl) rfl (fun _ X => bX5_bought_0 X v x1 x2 h)

def rmX5_friends : Room := { frames := 6, cells := 0, slots := 0, locals := 144 }

set_option maxHeartbeats 4000000 in
set_option maxRecDepth 100000 in
theorem bX5_friends_0 {l : Launch} {D : va_G} {cA : Nat → ClassId} {r : Nat → Nat} {G : gG} {xr : Int32} {v' : gV} (X : XC l D cA r RX5 cX5_friends 6 (some .int) rmX5_friends (some (.int xr)) v' G) (v : gV) (x1 : Int32) (x2 : Int32) (h : fX5_friends v x1 x2 = some (xr, v')) : G v [(0, .ref (r 0)), (1, .int x1), (2, .int x2)] 0 [] := by
  unfold fX5_friends at h
  refine g_iload_n X dX5_friends_0 rfl 1 rfl ?_
  refine g_if_lt X 20 dX5_friends_1 (by decide) (fun c => ?_) (fun c => ?_)
  · replace h := gTr c h
    refine g_ldc X kk5_210 dX5_friends_20 ?_
    exact g_iretR X h dX5_friends_22
  · replace h := gF c h
    refine g_iload_n X dX5_friends_4 rfl 1 rfl ?_
    refine g_bipush X 60 dX5_friends_5 (by decide) ?_
    refine g_icmp_gt X 20 dX5_friends_7 (by decide) (fun c => ?_) (fun c => ?_)
    · replace h := gTr c h
      refine g_ldc X kk5_210 dX5_friends_20 ?_
      exact g_iretR X h dX5_friends_22
    · replace h := gF c h
      refine g_iload_n X dX5_friends_10 rfl 2 rfl ?_
      refine g_if_lt X 20 dX5_friends_11 (by decide) (fun c => ?_) (fun c => ?_)
      · replace h := gTr c h
        refine g_ldc X kk5_210 dX5_friends_20 ?_
        exact g_iretR X h dX5_friends_22
      · replace h := gF c h
        refine g_iload_n X dX5_friends_14 rfl 2 rfl ?_
        refine g_bipush X 60 dX5_friends_15 (by decide) ?_
        refine g_icmp_le X 23 dX5_friends_17 (by decide) (fun c => ?_) (fun c => ?_)
        · replace h := gTr c h
          refine g_aload_n X dX5_friends_23 rfl 0 rfl ?_
          refine g_iload_n X dX5_friends_24 rfl 1 rfl ?_
          refine g_iload_n X dX5_friends_25 rfl 2 rfl ?_
          refine g_iadd X dX5_friends_26 ?_
          obtain ⟨y1, v2, hc3, h⟩ := gB_inv h
          refine g_callV X (st := []) (st' := [.ref (r 2)]) kcX5_endWith kvX5_endWith kl5_204 (⟨rfl, rfl, by decide, by decide⟩) (mX5_endWith hc3) hNC_0 (shC_0 _) rfl rfl rfl (Nat.le_of_ble_eq_true rfl) rfl dX5_friends_27 ?_
          refine g_iconst X 5 dX5_friends_30 (by decide) ?_
          refine g_ialdK X 5 hNC_2 (shC_2 _) rfl vin_5_7 dX5_friends_31 ?_
          refine g_aload_n X dX5_friends_32 rfl 0 rfl ?_
          refine g_get X fl5_9 hNC_0 (shC_0 _) rfl dX5_friends_33 ?_
          refine g_iconst X 5 dX5_friends_36 (by decide) ?_
          refine g_ialdK X 5 hNC_1 (shC_1 _) rfl vin_5_7 dX5_friends_37 ?_
          refine g_isub X dX5_friends_38 ?_
          refine g_istore_n X (ls' := [(3, .int ((v2 2 5) - (v2 1 5))), (0, .ref (r 0)), (1, .int x1), (2, .int x2)]) dX5_friends_39 rfl (by decide) rfl ?_
          refine g_aload_n X dX5_friends_40 rfl 1 rfl ?_
          refine g_iload_n X dX5_friends_41 rfl 2 rfl ?_
          obtain ⟨y4, v5, hc6, h⟩ := gB_inv h
          refine g_callV X (st := []) (st' := [.ref (r 2)]) kcX5_endWith kvX5_endWith kl5_204 (⟨rfl, rfl, by decide, by decide⟩) (mX5_endWith hc6) hNC_0 (shC_0 _) rfl rfl rfl (Nat.le_of_ble_eq_true rfl) rfl dX5_friends_42 ?_
          refine g_iconst X 5 dX5_friends_45 (by decide) ?_
          refine g_ialdK X 5 hNC_2 (shC_2 _) rfl vin_5_7 dX5_friends_46 ?_
          refine g_aload_n X dX5_friends_47 rfl 1 rfl ?_
          refine g_get X fl5_9 hNC_0 (shC_0 _) rfl dX5_friends_48 ?_
          refine g_iconst X 5 dX5_friends_51 (by decide) ?_
          refine g_ialdK X 5 hNC_1 (shC_1 _) rfl vin_5_7 dX5_friends_52 ?_
          refine g_isub X dX5_friends_53 ?_
          refine g_istore X (ls' := [(4, .int ((v5 2 5) - (v5 1 5))), (3, .int ((v2 2 5) - (v2 1 5))), (0, .ref (r 0)), (1, .int x1), (2, .int x2)]) dX5_friends_54 (by decide) rfl ?_
          refine g_aload_n X dX5_friends_56 rfl 2 rfl ?_
          refine g_iload_n X dX5_friends_57 rfl 4 rfl ?_
          obtain ⟨y7, v8, hc9, h⟩ := gB_inv h
          refine g_callV X (st := []) (st' := [.ref (r 2)]) kcX5_endWith kvX5_endWith kl5_204 (⟨rfl, rfl, by decide, by decide⟩) (mX5_endWith hc9) hNC_0 (shC_0 _) rfl rfl rfl (Nat.le_of_ble_eq_true rfl) rfl dX5_friends_58 ?_
          refine g_iconst X 5 dX5_friends_61 (by decide) ?_
          refine g_ialdK X 5 hNC_2 (shC_2 _) rfl vin_5_7 dX5_friends_62 ?_
          refine g_aload_n X dX5_friends_63 rfl 2 rfl ?_
          refine g_get X fl5_9 hNC_0 (shC_0 _) rfl dX5_friends_64 ?_
          refine g_iconst X 5 dX5_friends_67 (by decide) ?_
          refine g_ialdK X 5 hNC_1 (shC_1 _) rfl vin_5_7 dX5_friends_68 ?_
          refine g_isub X dX5_friends_69 ?_
          refine g_istore X (ls' := [(5, .int ((v8 2 5) - (v8 1 5))), (4, .int ((v5 2 5) - (v5 1 5))), (3, .int ((v2 2 5) - (v2 1 5))), (0, .ref (r 0)), (1, .int x1), (2, .int x2)]) dX5_friends_70 (by decide) rfl ?_
          refine g_iload_n X dX5_friends_72 rfl 2 rfl ?_
          refine g_iload X dX5_friends_73 1 rfl ?_
          refine g_isub X dX5_friends_75 ?_
          refine g_iload X dX5_friends_76 0 rfl ?_
          refine g_isub X dX5_friends_78 ?_
          exact g_iretR X h dX5_friends_79
        · replace h := gF c h
          refine g_ldc X kk5_210 dX5_friends_20 ?_
          exact g_iretR X h dX5_friends_22

theorem mX5_friends {l : Launch} {D : va_G} {cA : Nat → ClassId} {r : Nat → Nat} {v : gV} {x1 : Int32} {x2 : Int32} {xr : Int32} {v' : gV} (h : fX5_friends v x1 x2 = some (xr, v')) : Ct l D (tysC cA) (shC cA r) 50 r (ZC r) yX5_friends cX5_friends 6 (some .int) rmX5_friends [.ref (r 0), .int x1, .int x2] v (some (.int xr)) v' := ct_of plX5 ZC_ok (Nat.le_of_ble_eq_true rfl) rfl (fun _ X => bX5_friends_0 X v x1 x2 h)

def rmX5_worth : Room := { frames := 5, cells := 0, slots := 0, locals := 122 }

set_option maxHeartbeats 4000000 in
set_option maxRecDepth 100000 in
theorem bX5_worth_0 {l : Launch} {D : va_G} {cA : Nat → ClassId} {r : Nat → Nat} {G : gG} {xr : Int32} {v' : gV} (X : XC l D cA r RX5 cX5_worth 4 (some .int) rmX5_worth (some (.int xr)) v' G) (v : gV) (x1 : Int32) (h : fX5_worth v x1 = some (xr, v')) : G v [(0, .ref (r 0)), (1, .int x1)] 0 [] := by
  unfold fX5_worth at h
  refine g_aload_n X dX5_worth_0 rfl 0 rfl ?_
  refine g_get X fl5_24 hNC_0 (shC_0 _) rfl dX5_worth_1 ?_
  refine g_iload_n X dX5_worth_4 rfl 1 rfl ?_
  obtain ⟨y1, v2, hc3, h⟩ := gB_inv h
  refine g_callV X (st := []) (st' := [.int y1]) kcX1_has kvX1_has kl5_117 (⟨rfl, rfl, by decide, by decide⟩) (mX1_has hc3) hNC_4 (shC_4 _) rfl rfl rfl (Nat.le_of_ble_eq_true rfl) rfl dX5_worth_5 ?_
  refine g_if_ne X 14 dX5_worth_8 (by decide) (fun c => ?_) (fun c => ?_)
  · replace h := gF c h
    refine g_aload_n X dX5_worth_14 rfl 0 rfl ?_
    obtain ⟨y4, v5, hc6, h⟩ := gB_inv h
    refine g_callV X (st := []) (st' := [.ref (r 2)]) kcX5_startThought kvX5_startThought kl5_158 (⟨rfl, rfl, by decide, by decide⟩) (mX5_startThought hc6) hNC_0 (shC_0 _) rfl rfl rfl (Nat.le_of_ble_eq_true rfl) rfl dX5_worth_15 ?_
    refine g_astore_n X (ls' := [(2, .ref (r 2)), (0, .ref (r 0)), (1, .int x1)]) dX5_worth_18 rfl (by decide) rfl ?_
    refine g_aload_n X dX5_worth_19 rfl 1 rfl ?_
    refine g_aload_n X dX5_worth_20 rfl 0 rfl ?_
    refine g_sipush X 200 dX5_worth_21 (by decide) ?_
    refine g_iconst X (-1) dX5_worth_24 (by decide) ?_
    refine g_aload_n X dX5_worth_25 rfl 1 rfl ?_
    refine g_get X fl5_73 hNC_0 (shC_0 _) rfl dX5_worth_26 ?_
    obtain ⟨y7, v8, hc9, h⟩ := gB_inv h
    refine g_callV X (st := []) (st' := [.int y7]) kcX5_runGreedily kvX5_runGreedily kl5_162 (⟨rfl, rfl, by decide, by decide⟩) (mX5_runGreedily gRow_2 hc9) hNC_0 (shC_0 _) rfl rfl rfl (Nat.le_of_ble_eq_true rfl) rfl dX5_worth_29 ?_
    refine g_pop X dX5_worth_32 rfl ?_
    refine g_aload_n X dX5_worth_33 rfl 0 rfl ?_
    refine g_iconst X 5 dX5_worth_34 (by decide) ?_
    refine g_ialdK X 5 hNC_2 (shC_2 _) rfl vin_5_7 dX5_worth_35 ?_
    refine g_istore_n X (ls' := [(3, .int (v8 2 5)), (2, .ref (r 2)), (0, .ref (r 0)), (1, .int x1)]) dX5_worth_36 rfl (by decide) rfl ?_
    refine g_aload_n X dX5_worth_37 rfl 2 rfl ?_
    obtain ⟨y10, v11, hc12, h⟩ := gB_inv h
    refine g_callV X (st := []) (st' := [.ref (r 2)]) kcX5_startThought kvX5_startThought kl5_158 (⟨rfl, rfl, by decide, by decide⟩) (mX5_startThought hc12) hNC_0 (shC_0 _) rfl rfl rfl (Nat.le_of_ble_eq_true rfl) rfl dX5_worth_38 ?_
    refine g_astore_n X (ls' := [(2, .ref (r 2)), (3, .int (v8 2 5)), (0, .ref (r 0)), (1, .int x1)]) dX5_worth_41 rfl (by decide) rfl ?_
    refine g_aload_n X dX5_worth_42 rfl 2 rfl ?_
    refine g_aload_n X dX5_worth_43 rfl 0 rfl ?_
    refine g_sipush X 200 dX5_worth_44 (by decide) ?_
    refine g_iload_n X dX5_worth_47 rfl 3 rfl ?_
    refine g_aload_n X dX5_worth_48 rfl 2 rfl ?_
    refine g_get X fl5_73 hNC_0 (shC_0 _) rfl dX5_worth_49 ?_
    obtain ⟨y13, v14, hc15, h⟩ := gB_inv h
    refine g_callV X (st := []) (st' := [.int y13]) kcX5_runGreedily kvX5_runGreedily kl5_162 (⟨rfl, rfl, by decide, by decide⟩) (mX5_runGreedily gRow_2 hc15) hNC_0 (shC_0 _) rfl rfl rfl (Nat.le_of_ble_eq_true rfl) rfl dX5_worth_52 ?_
    refine g_pop X dX5_worth_55 rfl ?_
    refine g_iload_n X dX5_worth_56 rfl 1 rfl ?_
    refine g_aload_n X dX5_worth_57 rfl 0 rfl ?_
    refine g_iconst X 5 dX5_worth_58 (by decide) ?_
    refine g_ialdK X 5 hNC_2 (shC_2 _) rfl vin_5_7 dX5_worth_59 ?_
    refine g_isub X dX5_worth_60 ?_
    exact g_iretR X h dX5_worth_61
  · replace h := gTr c h
    refine g_ldc X kk5_210 dX5_worth_11 ?_
    exact g_iretR X h dX5_worth_13

theorem mX5_worth {l : Launch} {D : va_G} {cA : Nat → ClassId} {r : Nat → Nat} {v : gV} {x1 : Int32} {xr : Int32} {v' : gV} (h : fX5_worth v x1 = some (xr, v')) : Ct l D (tysC cA) (shC cA r) 50 r (ZC r) yX5_worth cX5_worth 4 (some .int) rmX5_worth [.ref (r 0), .int x1] v (some (.int xr)) v' := ct_of plX5 ZC_ok (Nat.le_of_ble_eq_true rfl) rfl (fun _ X => bX5_worth_0 X v x1 h)

def rmX5_inDigits : Room := { frames := 0, cells := 0, slots := 0, locals := 0 }

set_option maxHeartbeats 4000000 in
set_option maxRecDepth 100000 in
theorem bX5_inDigits_4 {l : Launch} {D : va_G} {cA : Nat → ClassId} {r : Nat → Nat} {G : gG} {xr : Int32} {v' : gV} (X : XC l D cA r RX5 cX5_inDigits 5 (some .int) rmX5_inDigits (some (.int xr)) v' G) : ∀ (n : Nat) (v : gV) (x1 : Int32) (x2 : Int32) (x3 : Int32), fX5_inDigits_4 n v x1 x2 x3 = some (xr, v') → G v [(0, .ref (r 0)), (1, .int x1), (2, .int x2), (3, .int x3)] 4 [] := by
  intro n
  induction n with
  | zero => intro v x1 x2 x3 h; rw [fX5_inDigits_4] at h; cases h
  | succ n ih =>
    intro v x1 x2 x3 h
    rw [fX5_inDigits_4] at h
    refine g_iload_n X dX5_inDigits_4 rfl 3 rfl ?_
    refine g_aload_n X dX5_inDigits_5 rfl 0 rfl ?_
    refine g_get X fl5_24 hNC_0 (shC_0 _) rfl dX5_inDigits_6 ?_
    refine g_get X fl5_70 hNC_4 (shC_4 _) rfl dX5_inDigits_9 ?_
    refine g_icmp_ge X 48 dX5_inDigits_12 (by decide) (fun c => ?_) (fun c => ?_)
    · replace h := gTr c h
      refine g_iload_n X dX5_inDigits_48 rfl 2 rfl ?_
      exact g_iretR X h dX5_inDigits_49
    · replace h := gF c h
      refine g_iload_n X dX5_inDigits_15 rfl 1 rfl ?_
      refine g_iconst X 2 dX5_inDigits_16 (by decide) ?_
      refine g_aload_n X dX5_inDigits_17 rfl 0 rfl ?_
      refine g_get X fl5_24 hNC_0 (shC_0 _) rfl dX5_inDigits_18 ?_
      refine g_get X fl5_70 hNC_4 (shC_4 _) rfl dX5_inDigits_21 ?_
      refine g_iconst X 1 dX5_inDigits_24 (by decide) ?_
      refine g_isub X dX5_inDigits_25 ?_
      refine g_iload_n X dX5_inDigits_26 rfl 3 rfl ?_
      refine g_isub X dX5_inDigits_27 ?_
      refine g_imul X dX5_inDigits_28 ?_
      refine g_ishr X dX5_inDigits_29 ?_
      refine g_iconst X 3 dX5_inDigits_30 (by decide) ?_
      refine g_iand X dX5_inDigits_31 ?_
      refine g_istore X (ls' := [(4, .int ((x1 >>> ((2 * (((v 4 4) - 1) - x3)) &&& 31)) &&& 3)), (0, .ref (r 0)), (1, .int x1), (2, .int x2), (3, .int x3)]) dX5_inDigits_32 (by decide) rfl ?_
      refine g_iload_n X dX5_inDigits_34 rfl 3 rfl ?_
      refine g_bipush X 10 dX5_inDigits_35 (by decide) ?_
      refine g_imul X dX5_inDigits_37 ?_
      refine g_iload X dX5_inDigits_38 0 rfl ?_
      refine g_iadd X dX5_inDigits_40 ?_
      refine g_istore_n X (ls' := [(2, .int ((x2 * 10) + ((x1 >>> ((2 * (((v 4 4) - 1) - x3)) &&& 31)) &&& 3))), (4, .int ((x1 >>> ((2 * (((v 4 4) - 1) - x3)) &&& 31)) &&& 3)), (0, .ref (r 0)), (1, .int x1), (3, .int x3)]) dX5_inDigits_41 rfl (by decide) rfl ?_
      refine g_iinc X (x3 + 1) [(3, .int (x3 + 1)), (2, .int ((x2 * 10) + ((x1 >>> ((2 * (((v 4 4) - 1) - x3)) &&& 31)) &&& 3))), (4, .int ((x1 >>> ((2 * (((v 4 4) - 1) - x3)) &&& 31)) &&& 3)), (0, .ref (r 0)), (1, .int x1)] dX5_inDigits_42 4 rfl rfl (by decide) rfl ?_
      refine g_goto X 4 dX5_inDigits_45 (by decide) ?_
      refine g_sub X [3, 4, 1, 0] (ls' := [(0, .ref (r 0)), (1, .int x1), (2, .int ((x2 * 10) + ((x1 >>> ((2 * (((v 4 4) - 1) - x3)) &&& 31)) &&& 3))), (3, .int (x3 + 1))]) rfl ?_
      exact ih _ _ _ _  h

set_option maxHeartbeats 4000000 in
set_option maxRecDepth 100000 in
theorem bX5_inDigits_0 {l : Launch} {D : va_G} {cA : Nat → ClassId} {r : Nat → Nat} {G : gG} {xr : Int32} {v' : gV} (X : XC l D cA r RX5 cX5_inDigits 5 (some .int) rmX5_inDigits (some (.int xr)) v' G) (v : gV) (x1 : Int32) (h : fX5_inDigits v x1 = some (xr, v')) : G v [(0, .ref (r 0)), (1, .int x1)] 0 [] := by
  unfold fX5_inDigits at h
  refine g_iconst X 0 dX5_inDigits_0 (by decide) ?_
  refine g_istore_n X (ls' := [(2, .int 0), (0, .ref (r 0)), (1, .int x1)]) dX5_inDigits_1 rfl (by decide) rfl ?_
  refine g_iconst X 0 dX5_inDigits_2 (by decide) ?_
  refine g_istore_n X (ls' := [(3, .int 0), (2, .int 0), (0, .ref (r 0)), (1, .int x1)]) dX5_inDigits_3 rfl (by decide) rfl ?_
  refine g_sub X [2, 3, 1, 0] (ls' := [(0, .ref (r 0)), (1, .int x1), (2, .int 0), (3, .int 0)]) rfl ?_
  exact bX5_inDigits_4 X  _ _ _ _ _  h

theorem mX5_inDigits {l : Launch} {D : va_G} {cA : Nat → ClassId} {r : Nat → Nat} {v : gV} {x1 : Int32} {xr : Int32} {v' : gV} (h : fX5_inDigits v x1 = some (xr, v')) : Ct l D (tysC cA) (shC cA r) 50 r (ZC r) yX5_inDigits cX5_inDigits 5 (some .int) rmX5_inDigits [.ref (r 0), .int x1] v (some (.int xr)) v' := ct_of plX5 ZC_ok (Nat.le_of_ble_eq_true rfl) rfl (fun _ X => bX5_inDigits_0 X v x1 h)

def rmX5_neverEnds : Room := { frames := 2, cells := 0, slots := 0, locals := 43 }

set_option maxHeartbeats 4000000 in
set_option maxRecDepth 100000 in
theorem bX5_neverEnds_173 {l : Launch} {D : va_G} {cA : Nat → ClassId} {r : Nat → Nat} {G : gG} {xr : Int32} {v' : gV} {k25 : gV → Int32 → Int32 → Int32 → Int32 → Int32 → Int32 → Int32 → Option (Int32 × gV)} (X : XC l D cA r RX5 cX5_neverEnds 13 (some .boolean) rmX5_neverEnds (some (.int xr)) v' G) (K25 : ∀ (v : gV) (x2 : Int32) (x3 : Int32) (x4 : Int32) (x5 : Int32) (x6 : Int32) (x7 : Int32) (x8 : Int32), k25 v x2 x3 x4 x5 x6 x7 x8 = some (xr, v') → G v [(0, .ref (r 0)), (2, .int x2), (3, .int x3), (4, .int x4), (5, .int x5), (6, .int x6), (7, .int x7), (8, .int x8)] 25 []) (v : gV) (x2 : Int32) (x3 : Int32) (x4 : Int32) (x5 : Int32) (x7 : Int32) (x8 : Int32) (s0 : Int32) (s1 : Int32) (h : fX5_neverEnds_173 k25 v x2 x3 x4 x5 x7 x8 s0 s1 = some (xr, v')) : G v [(0, .ref (r 0)), (2, .int x2), (3, .int x3), (4, .int x4), (5, .int x5), (7, .int x7), (8, .int x8)] 173 [.int s1, .int s0] := by
  unfold fX5_neverEnds_173 at h
  refine g_iadd X dX5_neverEnds_173 ?_
  refine g_istore X (ls' := [(6, .int (s0 + s1)), (0, .ref (r 0)), (2, .int x2), (3, .int x3), (4, .int x4), (5, .int x5), (7, .int x7), (8, .int x8)]) dX5_neverEnds_174 (by decide) rfl ?_
  refine g_iinc X (x8 + (-1)) [(8, .int (x8 + (-1))), (6, .int (s0 + s1)), (0, .ref (r 0)), (2, .int x2), (3, .int x3), (4, .int x4), (5, .int x5), (7, .int x7)] dX5_neverEnds_176 7 rfl rfl (by decide) rfl ?_
  refine g_goto X 25 dX5_neverEnds_179 (by decide) ?_
  refine g_sub X [2, 3, 4, 5, 6, 1, 7, 0] (ls' := [(0, .ref (r 0)), (2, .int x2), (3, .int x3), (4, .int x4), (5, .int x5), (6, .int (s0 + s1)), (7, .int x7), (8, .int (x8 + (-1)))]) rfl ?_
  exact K25 _ _ _ _ _ _ _ _  h

set_option maxHeartbeats 4000000 in
set_option maxRecDepth 100000 in
theorem bX5_neverEnds_156 {l : Launch} {D : va_G} {cA : Nat → ClassId} {r : Nat → Nat} {G : gG} {xr : Int32} {v' : gV} {k25 : gV → Int32 → Int32 → Int32 → Int32 → Int32 → Int32 → Int32 → Option (Int32 × gV)} (X : XC l D cA r RX5 cX5_neverEnds 13 (some .boolean) rmX5_neverEnds (some (.int xr)) v' G) (K25 : ∀ (v : gV) (x2 : Int32) (x3 : Int32) (x4 : Int32) (x5 : Int32) (x6 : Int32) (x7 : Int32) (x8 : Int32), k25 v x2 x3 x4 x5 x6 x7 x8 = some (xr, v') → G v [(0, .ref (r 0)), (2, .int x2), (3, .int x3), (4, .int x4), (5, .int x5), (6, .int x6), (7, .int x7), (8, .int x8)] 25 []) (v : gV) (x2 : Int32) (x3 : Int32) (x4 : Int32) (x6 : Int32) (x7 : Int32) (x8 : Int32) (x11 : Int32) (x12 : Int32) (s0 : Int32) (s1 : Int32) (h : fX5_neverEnds_156 k25 v x2 x3 x4 x6 x7 x8 x11 x12 s0 s1 = some (xr, v')) : G v [(0, .ref (r 0)), (2, .int x2), (3, .int x3), (4, .int x4), (6, .int x6), (7, .int x7), (8, .int x8), (11, .int x11), (12, .int x12)] 156 [.int s1, .int s0] := by
  unfold fX5_neverEnds_156 at h
  refine g_iadd X dX5_neverEnds_156 ?_
  refine g_istore X (ls' := [(5, .int (s0 + s1)), (0, .ref (r 0)), (2, .int x2), (3, .int x3), (4, .int x4), (6, .int x6), (7, .int x7), (8, .int x8), (11, .int x11), (12, .int x12)]) dX5_neverEnds_157 (by decide) rfl ?_
  refine g_iload X dX5_neverEnds_159 5 rfl ?_
  refine g_iload X dX5_neverEnds_161 9 rfl ?_
  refine g_iconst X 3 dX5_neverEnds_163 (by decide) ?_
  refine g_icmp_ne X 172 dX5_neverEnds_164 (by decide) (fun c => ?_) (fun c => ?_)
  · replace h := gF c h
    refine g_iconst X 0 dX5_neverEnds_172 (by decide) ?_
    refine g_sub X [1, 2, 3, 4, 0, 6, 7] (ls' := [(0, .ref (r 0)), (2, .int x2), (3, .int x3), (4, .int x4), (5, .int (s0 + s1)), (7, .int x7), (8, .int x8)]) rfl ?_
    exact bX5_neverEnds_173 X K25 _ _ _ _ _ _ _ _ _  h
  · replace h := gTr c h
    refine g_iload X dX5_neverEnds_167 8 rfl ?_
    refine g_goto X 173 dX5_neverEnds_169 (by decide) ?_
    refine g_sub X [1, 2, 3, 4, 0, 6, 7] (ls' := [(0, .ref (r 0)), (2, .int x2), (3, .int x3), (4, .int x4), (5, .int (s0 + s1)), (7, .int x7), (8, .int x8)]) rfl ?_
    exact bX5_neverEnds_173 X K25 _ _ _ _ _ _ _ _ _  h

set_option maxHeartbeats 4000000 in
set_option maxRecDepth 100000 in
theorem bX5_neverEnds_139 {l : Launch} {D : va_G} {cA : Nat → ClassId} {r : Nat → Nat} {G : gG} {xr : Int32} {v' : gV} {k25 : gV → Int32 → Int32 → Int32 → Int32 → Int32 → Int32 → Int32 → Option (Int32 × gV)} (X : XC l D cA r RX5 cX5_neverEnds 13 (some .boolean) rmX5_neverEnds (some (.int xr)) v' G) (K25 : ∀ (v : gV) (x2 : Int32) (x3 : Int32) (x4 : Int32) (x5 : Int32) (x6 : Int32) (x7 : Int32) (x8 : Int32), k25 v x2 x3 x4 x5 x6 x7 x8 = some (xr, v') → G v [(0, .ref (r 0)), (2, .int x2), (3, .int x3), (4, .int x4), (5, .int x5), (6, .int x6), (7, .int x7), (8, .int x8)] 25 []) (v : gV) (x2 : Int32) (x3 : Int32) (x5 : Int32) (x6 : Int32) (x7 : Int32) (x8 : Int32) (x11 : Int32) (x12 : Int32) (s0 : Int32) (s1 : Int32) (h : fX5_neverEnds_139 k25 v x2 x3 x5 x6 x7 x8 x11 x12 s0 s1 = some (xr, v')) : G v [(0, .ref (r 0)), (2, .int x2), (3, .int x3), (5, .int x5), (6, .int x6), (7, .int x7), (8, .int x8), (11, .int x11), (12, .int x12)] 139 [.int s1, .int s0] := by
  unfold fX5_neverEnds_139 at h
  refine g_iadd X dX5_neverEnds_139 ?_
  refine g_istore X (ls' := [(4, .int (s0 + s1)), (0, .ref (r 0)), (2, .int x2), (3, .int x3), (5, .int x5), (6, .int x6), (7, .int x7), (8, .int x8), (11, .int x11), (12, .int x12)]) dX5_neverEnds_140 (by decide) rfl ?_
  refine g_iload X dX5_neverEnds_142 4 rfl ?_
  refine g_iload X dX5_neverEnds_144 9 rfl ?_
  refine g_iconst X 2 dX5_neverEnds_146 (by decide) ?_
  refine g_icmp_ne X 155 dX5_neverEnds_147 (by decide) (fun c => ?_) (fun c => ?_)
  · replace h := gF c h
    refine g_iconst X 0 dX5_neverEnds_155 (by decide) ?_
    refine g_sub X [1, 2, 3, 0, 5, 6, 7, 8, 9] (ls' := [(0, .ref (r 0)), (2, .int x2), (3, .int x3), (4, .int (s0 + s1)), (6, .int x6), (7, .int x7), (8, .int x8), (11, .int x11), (12, .int x12)]) rfl ?_
    exact bX5_neverEnds_156 X K25 _ _ _ _ _ _ _ _ _ _ _  h
  · replace h := gTr c h
    refine g_iload X dX5_neverEnds_150 8 rfl ?_
    refine g_goto X 156 dX5_neverEnds_152 (by decide) ?_
    refine g_sub X [1, 2, 3, 0, 5, 6, 7, 8, 9] (ls' := [(0, .ref (r 0)), (2, .int x2), (3, .int x3), (4, .int (s0 + s1)), (6, .int x6), (7, .int x7), (8, .int x8), (11, .int x11), (12, .int x12)]) rfl ?_
    exact bX5_neverEnds_156 X K25 _ _ _ _ _ _ _ _ _ _ _  h

set_option maxHeartbeats 4000000 in
set_option maxRecDepth 100000 in
theorem bX5_neverEnds_84 {l : Launch} {D : va_G} {cA : Nat → ClassId} {r : Nat → Nat} {G : gG} {xr : Int32} {v' : gV} {k25 : gV → Int32 → Int32 → Int32 → Int32 → Int32 → Int32 → Int32 → Option (Int32 × gV)} (X : XC l D cA r RX5 cX5_neverEnds 13 (some .boolean) rmX5_neverEnds (some (.int xr)) v' G) (K25 : ∀ (v : gV) (x2 : Int32) (x3 : Int32) (x4 : Int32) (x5 : Int32) (x6 : Int32) (x7 : Int32) (x8 : Int32), k25 v x2 x3 x4 x5 x6 x7 x8 = some (xr, v') → G v [(0, .ref (r 0)), (2, .int x2), (3, .int x3), (4, .int x4), (5, .int x5), (6, .int x6), (7, .int x7), (8, .int x8)] 25 []) (v : gV) (x2 : Int32) (x3 : Int32) (x4 : Int32) (x5 : Int32) (x6 : Int32) (x7 : Int32) (x8 : Int32) (x9 : Int32) (x10 : Int32) (h : fX5_neverEnds_84 k25 v x2 x3 x4 x5 x6 x7 x8 x9 x10 = some (xr, v')) : G v [(0, .ref (r 0)), (2, .int x2), (3, .int x3), (4, .int x4), (5, .int x5), (6, .int x6), (7, .int x7), (8, .int x8), (9, .int x9), (10, .int x10)] 84 [] := by
  unfold fX5_neverEnds_84 at h
  refine g_iload X dX5_neverEnds_84 8 rfl ?_
  refine g_aload_n X dX5_neverEnds_86 rfl 0 rfl ?_
  refine g_get X fl5_24 hNC_0 (shC_0 _) rfl dX5_neverEnds_87 ?_
  refine g_iload X dX5_neverEnds_90 7 rfl ?_
  refine g_aload_n X dX5_neverEnds_92 rfl 0 rfl ?_
  refine g_get X fl5_9 hNC_0 (shC_0 _) rfl dX5_neverEnds_93 ?_
  refine g_bipush X 6 dX5_neverEnds_96 (by decide) ?_
  refine g_ialdK X 6 hNC_1 (shC_1 _) rfl vin_6_7 dX5_neverEnds_98 ?_
  obtain ⟨y7, v8, hc9, h⟩ := gB_inv h
  refine g_callV X (st := [.int x9]) (st' := [.int y7, .int x9]) kcX1_takes kvX1_takes kl5_138 (⟨rfl, rfl, by decide, by decide⟩) (mX1_takes hc9) hNC_4 (shC_4 _) rfl rfl rfl (Nat.le_of_ble_eq_true rfl) rfl dX5_neverEnds_99 ?_
  refine g_imul X dX5_neverEnds_102 ?_
  refine g_istore X (ls' := [(11, .int (x9 * y7)), (0, .ref (r 0)), (2, .int x2), (3, .int x3), (4, .int x4), (5, .int x5), (6, .int x6), (7, .int x7), (8, .int x8), (9, .int x9), (10, .int x10)]) dX5_neverEnds_103 (by decide) rfl ?_
  refine g_aload_n X dX5_neverEnds_105 rfl 1 rfl ?_
  refine g_get X fl5_24 hNC_0 (shC_0 _) rfl dX5_neverEnds_106 ?_
  refine g_get X fl5_132 hNC_4 (shC_4 _) rfl dX5_neverEnds_109 ?_
  refine g_iload X dX5_neverEnds_112 8 rfl ?_
  obtain ⟨c, h⟩ := gGd h
  refine g_iald X hNC_10 (shC_10 _) rfl (gin_in c) dX5_neverEnds_114 ?_
  refine g_istore X (ls' := [(12, .int (v8 10 x8.toNatClampNeg)), (11, .int (x9 * y7)), (0, .ref (r 0)), (2, .int x2), (3, .int x3), (4, .int x4), (5, .int x5), (6, .int x6), (7, .int x7), (8, .int x8), (9, .int x9), (10, .int x10)]) dX5_neverEnds_115 (by decide) rfl ?_
  refine g_iload_n X dX5_neverEnds_117 rfl 4 rfl ?_
  refine g_iload X dX5_neverEnds_118 10 rfl ?_
  refine g_iload X dX5_neverEnds_120 11 rfl ?_
  refine g_imul X dX5_neverEnds_122 ?_
  refine g_iadd X dX5_neverEnds_123 ?_
  refine g_istore_n X (ls' := [(3, .int (x3 + (x9 * x10))), (12, .int (v8 10 x8.toNatClampNeg)), (11, .int (x9 * y7)), (0, .ref (r 0)), (2, .int x2), (4, .int x4), (5, .int x5), (6, .int x6), (7, .int x7), (8, .int x8), (9, .int x9), (10, .int x10)]) dX5_neverEnds_124 rfl (by decide) rfl ?_
  refine g_iload X dX5_neverEnds_125 5 rfl ?_
  refine g_iload X dX5_neverEnds_127 1 rfl ?_
  refine g_iconst X 1 dX5_neverEnds_129 (by decide) ?_
  refine g_icmp_ne X 138 dX5_neverEnds_130 (by decide) (fun c => ?_) (fun c => ?_)
  · replace h := gF c h
    refine g_iconst X 0 dX5_neverEnds_138 (by decide) ?_
    refine g_sub X [3, 4, 0, 6, 7, 8, 9, 2, 1] (ls' := [(0, .ref (r 0)), (2, .int x2), (3, .int (x3 + (x9 * x10))), (5, .int x5), (6, .int x6), (7, .int x7), (8, .int x8), (11, .int (x9 * y7)), (12, .int (v8 10 x8.toNatClampNeg))]) rfl ?_
    exact bX5_neverEnds_139 X K25 _ _ _ _ _ _ _ _ _ _ _  h
  · replace h := gTr c h
    refine g_iload X dX5_neverEnds_133 2 rfl ?_
    refine g_goto X 139 dX5_neverEnds_135 (by decide) ?_
    refine g_sub X [3, 4, 0, 6, 7, 8, 9, 2, 1] (ls' := [(0, .ref (r 0)), (2, .int x2), (3, .int (x3 + (x9 * x10))), (5, .int x5), (6, .int x6), (7, .int x7), (8, .int x8), (11, .int (x9 * y7)), (12, .int (v8 10 x8.toNatClampNeg))]) rfl ?_
    exact bX5_neverEnds_139 X K25 _ _ _ _ _ _ _ _ _ _ _  h

set_option maxHeartbeats 4000000 in
set_option maxRecDepth 100000 in
theorem bX5_neverEnds_182 {l : Launch} {D : va_G} {cA : Nat → ClassId} {r : Nat → Nat} {G : gG} {xr : Int32} {v' : gV} (X : XC l D cA r RX5 cX5_neverEnds 13 (some .boolean) rmX5_neverEnds (some (.int xr)) v' G) (v : gV) (x2 : Int32) (x3 : Int32) (x4 : Int32) (x5 : Int32) (x6 : Int32) (h : fX5_neverEnds_182 v x2 x3 x4 x5 x6 = some (xr, v')) : G v [(2, .int x2), (3, .int x3), (4, .int x4), (5, .int x5), (6, .int x6)] 182 [] := by
  unfold fX5_neverEnds_182 at h
  refine g_iload_n X dX5_neverEnds_182 rfl 1 rfl ?_
  refine g_if_le X 210 dX5_neverEnds_183 (by decide) (fun c => ?_) (fun c => ?_)
  · replace h := gTr c h
    refine g_iconst X 0 dX5_neverEnds_210 (by decide) ?_
    exact g_zretR X (Or.inl rfl) h dX5_neverEnds_211
  · replace h := gF c h
    refine g_iload X dX5_neverEnds_186 2 rfl ?_
    refine g_iload_n X dX5_neverEnds_188 rfl 1 rfl ?_
    refine g_iload_n X dX5_neverEnds_189 rfl 0 rfl ?_
    refine g_imul X dX5_neverEnds_190 ?_
    refine g_icmp_gt X 210 dX5_neverEnds_191 (by decide) (fun c => ?_) (fun c => ?_)
    · replace h := gTr c h
      refine g_iconst X 0 dX5_neverEnds_210 (by decide) ?_
      exact g_zretR X (Or.inl rfl) h dX5_neverEnds_211
    · replace h := gF c h
      refine g_iload X dX5_neverEnds_194 3 rfl ?_
      refine g_iload_n X dX5_neverEnds_196 rfl 1 rfl ?_
      refine g_icmp_gt X 210 dX5_neverEnds_197 (by decide) (fun c => ?_) (fun c => ?_)
      · replace h := gTr c h
        refine g_iconst X 0 dX5_neverEnds_210 (by decide) ?_
        exact g_zretR X (Or.inl rfl) h dX5_neverEnds_211
      · replace h := gF c h
        refine g_iload X dX5_neverEnds_200 4 rfl ?_
        refine g_iload_n X dX5_neverEnds_202 rfl 1 rfl ?_
        refine g_icmp_gt X 210 dX5_neverEnds_203 (by decide) (fun c => ?_) (fun c => ?_)
        · replace h := gTr c h
          refine g_iconst X 0 dX5_neverEnds_210 (by decide) ?_
          exact g_zretR X (Or.inl rfl) h dX5_neverEnds_211
        · replace h := gF c h
          refine g_iconst X 1 dX5_neverEnds_206 (by decide) ?_
          refine g_goto X 211 dX5_neverEnds_207 (by decide) ?_
          exact g_zretR X (Or.inr rfl) h dX5_neverEnds_211

set_option maxHeartbeats 4000000 in
set_option maxRecDepth 100000 in
theorem bX5_neverEnds_25 {l : Launch} {D : va_G} {cA : Nat → ClassId} {r : Nat → Nat} {G : gG} {xr : Int32} {v' : gV} (X : XC l D cA r RX5 cX5_neverEnds 13 (some .boolean) rmX5_neverEnds (some (.int xr)) v' G) : ∀ (n : Nat) (v : gV) (x2 : Int32) (x3 : Int32) (x4 : Int32) (x5 : Int32) (x6 : Int32) (x7 : Int32) (x8 : Int32), fX5_neverEnds_25 n v x2 x3 x4 x5 x6 x7 x8 = some (xr, v') → G v [(0, .ref (r 0)), (2, .int x2), (3, .int x3), (4, .int x4), (5, .int x5), (6, .int x6), (7, .int x7), (8, .int x8)] 25 [] := by
  intro n
  induction n with
  | zero => intro v x2 x3 x4 x5 x6 x7 x8 h; rw [fX5_neverEnds_25] at h; cases h
  | succ n ih =>
    intro v x2 x3 x4 x5 x6 x7 x8 h
    rw [fX5_neverEnds_25] at h
    refine g_iload X dX5_neverEnds_25 7 rfl ?_
    refine g_if_lt X 182 dX5_neverEnds_27 (by decide) (fun c => ?_) (fun c => ?_)
    · replace h := gTr c h
      refine g_sub X [1, 2, 3, 4, 5] (ls' := [(2, .int x2), (3, .int x3), (4, .int x4), (5, .int x5), (6, .int x6)]) rfl ?_
      exact bX5_neverEnds_182 X  _ _ _ _ _ _  h
    · replace h := gF c h
      refine g_aload_n X dX5_neverEnds_30 rfl 0 rfl ?_
      refine g_get X fl5_24 hNC_0 (shC_0 _) rfl dX5_neverEnds_31 ?_
      refine g_iload X dX5_neverEnds_34 7 rfl ?_
      obtain ⟨y1, v2, hc3, h⟩ := gB_inv h
      refine g_callV X (st := []) (st' := [.int y1]) kcX1_has kvX1_has kl5_117 (⟨rfl, rfl, by decide, by decide⟩) (mX1_has hc3) hNC_4 (shC_4 _) rfl rfl rfl (Nat.le_of_ble_eq_true rfl) rfl dX5_neverEnds_36 ?_
      refine g_if_eq X 182 dX5_neverEnds_39 (by decide) (fun c => ?_) (fun c => ?_)
      · replace h := gTr c h
        refine g_sub X [1, 2, 3, 4, 5] (ls' := [(2, .int x2), (3, .int x3), (4, .int x4), (5, .int x5), (6, .int x6)]) rfl ?_
        exact bX5_neverEnds_182 X  _ _ _ _ _ _  h
      · replace h := gF c h
        refine g_iload X dX5_neverEnds_42 6 rfl ?_
        refine g_iconst X 3 dX5_neverEnds_44 (by decide) ?_
        refine g_iand X dX5_neverEnds_45 ?_
        refine g_istore X (ls' := [(9, .int (x7 &&& 3)), (0, .ref (r 0)), (2, .int x2), (3, .int x3), (4, .int x4), (5, .int x5), (6, .int x6), (7, .int x7), (8, .int x8)]) dX5_neverEnds_46 (by decide) rfl ?_
        refine g_iload X dX5_neverEnds_48 7 rfl ?_
        refine g_iconst X 2 dX5_neverEnds_50 (by decide) ?_
        refine g_ishr X dX5_neverEnds_51 ?_
        refine g_istore X (ls' := [(7, .int (x7 >>> (2 &&& 31))), (9, .int (x7 &&& 3)), (0, .ref (r 0)), (2, .int x2), (3, .int x3), (4, .int x4), (5, .int x5), (6, .int x6), (8, .int x8)]) dX5_neverEnds_52 (by decide) rfl ?_
        refine g_aload_n X dX5_neverEnds_54 rfl 2 rfl ?_
        refine g_get X fl5_24 hNC_0 (shC_0 _) rfl dX5_neverEnds_55 ?_
        refine g_iload X dX5_neverEnds_58 8 rfl ?_
        refine g_aload_n X dX5_neverEnds_60 rfl 2 rfl ?_
        refine g_get X fl5_9 hNC_0 (shC_0 _) rfl dX5_neverEnds_61 ?_
        refine g_bipush X 6 dX5_neverEnds_64 (by decide) ?_
        refine g_ialdK X 6 hNC_1 (shC_1 _) rfl vin_6_7 dX5_neverEnds_66 ?_
        obtain ⟨y4, v5, hc6, h⟩ := gB_inv h
        refine g_callV X (st := []) (st' := [.int y4]) kcX1_gives kvX1_gives kl5_141 (⟨rfl, rfl, by decide, by decide⟩) (mX1_gives hc6) hNC_4 (shC_4 _) rfl rfl rfl (Nat.le_of_ble_eq_true rfl) rfl dX5_neverEnds_67 ?_
        refine g_istore X (ls' := [(10, .int y4), (7, .int (x7 >>> (2 &&& 31))), (9, .int (x7 &&& 3)), (0, .ref (r 0)), (2, .int x2), (3, .int x3), (4, .int x4), (5, .int x5), (6, .int x6), (8, .int x8)]) dX5_neverEnds_70 (by decide) rfl ?_
        refine g_iload X dX5_neverEnds_72 2 rfl ?_
        refine g_if_le X 84 dX5_neverEnds_74 (by decide) (fun c => ?_) (fun c => ?_)
        · replace h := gTr c h
          refine g_sub X [3, 4, 5, 6, 7, 8, 1, 9, 2, 0] (ls' := [(0, .ref (r 0)), (2, .int x2), (3, .int x3), (4, .int x4), (5, .int x5), (6, .int x6), (7, .int (x7 >>> (2 &&& 31))), (8, .int x8), (9, .int (x7 &&& 3)), (10, .int y4)]) rfl ?_
          exact bX5_neverEnds_84 X ih _ _ _ _ _ _ _ _ _ _  h
        · replace h := gF c h
          refine g_iload X dX5_neverEnds_77 0 rfl ?_
          refine g_if_ne X 84 dX5_neverEnds_79 (by decide) (fun c => ?_) (fun c => ?_)
          · replace h := gF c h
            refine g_sub X [3, 4, 5, 6, 7, 8, 1, 9, 2, 0] (ls' := [(0, .ref (r 0)), (2, .int x2), (3, .int x3), (4, .int x4), (5, .int x5), (6, .int x6), (7, .int (x7 >>> (2 &&& 31))), (8, .int x8), (9, .int (x7 &&& 3)), (10, .int y4)]) rfl ?_
            exact bX5_neverEnds_84 X ih _ _ _ _ _ _ _ _ _ _  h
          · replace h := gTr c h
            refine g_iconst X 0 dX5_neverEnds_82 (by decide) ?_
            exact g_zretR X (Or.inl rfl) h dX5_neverEnds_83

set_option maxHeartbeats 4000000 in
set_option maxRecDepth 100000 in
theorem bX5_neverEnds_0 {l : Launch} {D : va_G} {cA : Nat → ClassId} {r : Nat → Nat} {G : gG} {xr : Int32} {v' : gV} (X : XC l D cA r RX5 cX5_neverEnds 13 (some .boolean) rmX5_neverEnds (some (.int xr)) v' G) (v : gV) (x1 : Int32) (x2 : Int32) (h : fX5_neverEnds v x1 x2 = some (xr, v')) : G v [(0, .ref (r 0)), (1, .int x1), (2, .int x2)] 0 [] := by
  unfold fX5_neverEnds at h
  refine g_iconst X 0 dX5_neverEnds_0 (by decide) ?_
  refine g_istore_n X (ls' := [(3, .int 0), (0, .ref (r 0)), (1, .int x1), (2, .int x2)]) dX5_neverEnds_1 rfl (by decide) rfl ?_
  refine g_iconst X 0 dX5_neverEnds_2 (by decide) ?_
  refine g_istore X (ls' := [(4, .int 0), (3, .int 0), (0, .ref (r 0)), (1, .int x1), (2, .int x2)]) dX5_neverEnds_3 (by decide) rfl ?_
  refine g_iconst X 0 dX5_neverEnds_5 (by decide) ?_
  refine g_istore X (ls' := [(5, .int 0), (4, .int 0), (3, .int 0), (0, .ref (r 0)), (1, .int x1), (2, .int x2)]) dX5_neverEnds_6 (by decide) rfl ?_
  refine g_iconst X 0 dX5_neverEnds_8 (by decide) ?_
  refine g_istore X (ls' := [(6, .int 0), (5, .int 0), (4, .int 0), (3, .int 0), (0, .ref (r 0)), (1, .int x1), (2, .int x2)]) dX5_neverEnds_9 (by decide) rfl ?_
  refine g_iload_n X dX5_neverEnds_11 rfl 5 rfl ?_
  refine g_istore X (ls' := [(7, .int x1), (6, .int 0), (5, .int 0), (4, .int 0), (3, .int 0), (0, .ref (r 0)), (1, .int x1), (2, .int x2)]) dX5_neverEnds_12 (by decide) rfl ?_
  refine g_aload_n X dX5_neverEnds_14 rfl 5 rfl ?_
  refine g_get X fl5_24 hNC_0 (shC_0 _) rfl dX5_neverEnds_15 ?_
  refine g_get X fl5_70 hNC_4 (shC_4 _) rfl dX5_neverEnds_18 ?_
  refine g_iconst X 1 dX5_neverEnds_21 (by decide) ?_
  refine g_isub X dX5_neverEnds_22 ?_
  refine g_istore X (ls' := [(8, .int ((v 4 4) - 1)), (7, .int x1), (6, .int 0), (5, .int 0), (4, .int 0), (3, .int 0), (0, .ref (r 0)), (1, .int x1), (2, .int x2)]) dX5_neverEnds_23 (by decide) rfl ?_
  refine g_sub X [6, 8, 5, 4, 3, 2, 1, 0] (ls' := [(0, .ref (r 0)), (2, .int x2), (3, .int 0), (4, .int 0), (5, .int 0), (6, .int 0), (7, .int x1), (8, .int ((v 4 4) - 1))]) rfl ?_
  exact bX5_neverEnds_25 X  _ _ _ _ _ _ _ _ _  h

theorem mX5_neverEnds {l : Launch} {D : va_G} {cA : Nat → ClassId} {r : Nat → Nat} {v : gV} {x1 : Int32} {x2 : Int32} {xr : Int32} {v' : gV} (h : fX5_neverEnds v x1 x2 = some (xr, v')) : Ct l D (tysC cA) (shC cA r) 50 r (ZC r) yX5_neverEnds cX5_neverEnds 13 (some .boolean) rmX5_neverEnds [.ref (r 0), .int x1, .int x2] v (some (.int xr)) v' := ct_of plX5 ZC_ok (Nat.le_of_ble_eq_true rfl) rfl (fun _ X => bX5_neverEnds_0 X v x1 x2 h)

def rmX5_never : Room := { frames := 3, cells := 0, slots := 0, locals := 75 }

set_option maxHeartbeats 4000000 in
set_option maxRecDepth 100000 in
theorem bX5_never_74 {l : Launch} {D : va_G} {cA : Nat → ClassId} {r : Nat → Nat} {G : gG} {xr : Int32} {v' : gV} {k44 : gV → Int32 → Int32 → Int32 → Int32 → Int32 → Option (Int32 × gV)} (X : XC l D cA r RX5 cX5_never 6 (some .int) rmX5_never (some (.int xr)) v' G) (K44 : ∀ (v : gV) (x1 : Int32) (x2 : Int32) (x3 : Int32) (x4 : Int32) (x5 : Int32), k44 v x1 x2 x3 x4 x5 = some (xr, v') → G v [(0, .ref (r 0)), (1, .int x1), (2, .int x2), (3, .int x3), (4, .int x4), (5, .int x5)] 44 []) (v : gV) (x1 : Int32) (x2 : Int32) (x3 : Int32) (x4 : Int32) (x5 : Int32) (h : fX5_never_74 k44 v x1 x2 x3 x4 x5 = some (xr, v')) : G v [(0, .ref (r 0)), (1, .int x1), (2, .int x2), (3, .int x3), (4, .int x4), (5, .int x5)] 74 [] := by
  unfold fX5_never_74 at h
  refine g_iinc X (x5 + 1) [(5, .int (x5 + 1)), (0, .ref (r 0)), (1, .int x1), (2, .int x2), (3, .int x3), (4, .int x4)] dX5_never_74 5 rfl rfl (by decide) rfl ?_
  refine g_goto X 44 dX5_never_77 (by decide) ?_
  refine g_sub X [1, 2, 3, 4, 5, 0] (ls' := [(0, .ref (r 0)), (1, .int x1), (2, .int x2), (3, .int x3), (4, .int x4), (5, .int (x5 + 1))]) rfl ?_
  exact K44 _ _ _ _ _ _  h

set_option maxHeartbeats 4000000 in
set_option maxRecDepth 100000 in
theorem bX5_never_44 {l : Launch} {D : va_G} {cA : Nat → ClassId} {r : Nat → Nat} {G : gG} {xr : Int32} {v' : gV} (X : XC l D cA r RX5 cX5_never 6 (some .int) rmX5_never (some (.int xr)) v' G) : ∀ (n : Nat) (v : gV) (x1 : Int32) (x2 : Int32) (x3 : Int32) (x4 : Int32) (x5 : Int32), fX5_never_44 n v x1 x2 x3 x4 x5 = some (xr, v') → G v [(0, .ref (r 0)), (1, .int x1), (2, .int x2), (3, .int x3), (4, .int x4), (5, .int x5)] 44 [] := by
  intro n
  induction n with
  | zero => intro v x1 x2 x3 x4 x5 h; rw [fX5_never_44] at h; cases h
  | succ n ih =>
    intro v x1 x2 x3 x4 x5 h
    rw [fX5_never_44] at h
    refine g_iload X dX5_never_44 5 rfl ?_
    refine g_iload_n X dX5_never_46 rfl 3 rfl ?_
    refine g_icmp_ge X 80 dX5_never_47 (by decide) (fun c => ?_) (fun c => ?_)
    · replace h := gTr c h
      refine g_iload_n X dX5_never_80 rfl 1 rfl ?_
      refine g_if_ne X 88 dX5_never_81 (by decide) (fun c => ?_) (fun c => ?_)
      · replace h := gF c h
        refine g_iload X dX5_never_88 4 rfl ?_
        exact g_iretR X h dX5_never_90
      · replace h := gTr c h
        refine g_iconst X (-1) dX5_never_84 (by decide) ?_
        refine g_goto X 90 dX5_never_85 (by decide) ?_
        exact g_iretR X h dX5_never_90
    · replace h := gF c h
      refine g_aload_n X dX5_never_50 rfl 0 rfl ?_
      refine g_iload X dX5_never_51 5 rfl ?_
      refine g_iload_n X dX5_never_53 rfl 2 rfl ?_
      obtain ⟨y4, v5, hc6, h⟩ := gB_inv h
      refine g_callV X (st := []) (st' := [.int y4]) kcX5_neverEnds kvX5_neverEnds kl5_211 (⟨rfl, rfl, by decide, by decide⟩) (mX5_neverEnds hc6) hNC_0 (shC_0 _) rfl rfl rfl (Nat.le_of_ble_eq_true rfl) rfl dX5_never_54 ?_
      refine g_if_eq X 74 dX5_never_57 (by decide) (fun c => ?_) (fun c => ?_)
      · replace h := gTr c h
        exact bX5_never_74 X ih _ _ _ _ _ _  h
      · replace h := gF c h
        refine g_iload_n X dX5_never_60 rfl 1 rfl ?_
        refine g_if_ne X 71 dX5_never_61 (by decide) (fun c => ?_) (fun c => ?_)
        · replace h := gF c h
          refine g_iinc X (x4 + 1) [(4, .int (x4 + 1)), (0, .ref (r 0)), (1, .int x1), (2, .int x2), (3, .int x3), (5, .int x5)] dX5_never_71 4 rfl rfl (by decide) rfl ?_
          refine g_sub X [1, 2, 3, 4, 0, 5] (ls' := [(0, .ref (r 0)), (1, .int x1), (2, .int x2), (3, .int x3), (4, .int (x4 + 1)), (5, .int x5)]) rfl ?_
          exact bX5_never_74 X ih _ _ _ _ _ _  h
        · replace h := gTr c h
          refine g_aload_n X dX5_never_64 rfl 0 rfl ?_
          refine g_iload X dX5_never_65 5 rfl ?_
          obtain ⟨y7, v8, hc9, h⟩ := gB_inv h
          refine g_callV X (st := []) (st' := [.int y7]) kcX5_inDigits kvX5_inDigits kl5_215 (⟨rfl, rfl, by decide, by decide⟩) (mX5_inDigits hc9) hNC_0 (shC_0 _) rfl rfl rfl (Nat.le_of_ble_eq_true rfl) rfl dX5_never_67 ?_
          exact g_iretR X h dX5_never_70

set_option maxHeartbeats 4000000 in
set_option maxRecDepth 100000 in
theorem bX5_never_0 {l : Launch} {D : va_G} {cA : Nat → ClassId} {r : Nat → Nat} {G : gG} {xr : Int32} {v' : gV} (X : XC l D cA r RX5 cX5_never 6 (some .int) rmX5_never (some (.int xr)) v' G) (v : gV) (x1 : Int32) (h : fX5_never v x1 = some (xr, v')) : G v [(0, .ref (r 0)), (1, .int x1)] 0 [] := by
  unfold fX5_never at h
  refine g_iload_n X dX5_never_0 rfl 1 rfl ?_
  refine g_if_lt X 9 dX5_never_1 (by decide) (fun c => ?_) (fun c => ?_)
  · replace h := gTr c h
    refine g_bipush X (-2) dX5_never_9 (by decide) ?_
    exact g_iretR X h dX5_never_11
  · replace h := gF c h
    refine g_iload_n X dX5_never_4 rfl 1 rfl ?_
    refine g_iconst X 1 dX5_never_5 (by decide) ?_
    refine g_icmp_le X 12 dX5_never_6 (by decide) (fun c => ?_) (fun c => ?_)
    · replace h := gTr c h
      refine g_aload_n X dX5_never_12 rfl 0 rfl ?_
      refine g_aload_n X dX5_never_13 rfl 0 rfl ?_
      refine g_get X fl5_73 hNC_0 (shC_0 _) rfl dX5_never_14 ?_
      refine g_iconst X 0 dX5_never_17 (by decide) ?_
      refine g_aload_n X dX5_never_18 rfl 0 rfl ?_
      refine g_get X fl5_9 hNC_0 (shC_0 _) rfl dX5_never_19 ?_
      obtain ⟨y1, v2, hc3, h⟩ := gB_inv h
      refine g_callV X (st := []) (st' := [.int y1]) kcX5_says kvX5_says kl5_93 (⟨rfl, rfl, by decide, by decide⟩) (mX5_says gRow_1 hc3) hNC_0 (shC_0 _) rfl rfl rfl (Nat.le_of_ble_eq_true rfl) rfl dX5_never_22 ?_
      refine g_istore_n X (ls' := [(2, .int y1), (0, .ref (r 0)), (1, .int x1)]) dX5_never_25 rfl (by decide) rfl ?_
      refine g_iconst X 1 dX5_never_26 (by decide) ?_
      refine g_iconst X 2 dX5_never_27 (by decide) ?_
      refine g_aload_n X dX5_never_28 rfl 1 rfl ?_
      refine g_get X fl5_24 hNC_0 (shC_0 _) rfl dX5_never_29 ?_
      refine g_get X fl5_70 hNC_4 (shC_4 _) rfl dX5_never_32 ?_
      refine g_imul X dX5_never_35 ?_
      refine g_ishl X dX5_never_36 ?_
      refine g_istore_n X (ls' := [(3, .int (1 <<< ((2 * (v2 4 4)) &&& 31))), (2, .int y1), (0, .ref (r 0)), (1, .int x1)]) dX5_never_37 rfl (by decide) rfl ?_
      refine g_iconst X 0 dX5_never_38 (by decide) ?_
      refine g_istore X (ls' := [(4, .int 0), (3, .int (1 <<< ((2 * (v2 4 4)) &&& 31))), (2, .int y1), (0, .ref (r 0)), (1, .int x1)]) dX5_never_39 (by decide) rfl ?_
      refine g_iconst X 1 dX5_never_41 (by decide) ?_
      refine g_istore X (ls' := [(5, .int 1), (4, .int 0), (3, .int (1 <<< ((2 * (v2 4 4)) &&& 31))), (2, .int y1), (0, .ref (r 0)), (1, .int x1)]) dX5_never_42 (by decide) rfl ?_
      refine g_sub X [4, 5, 3, 2, 1, 0] (ls' := [(0, .ref (r 0)), (1, .int x1), (2, .int y1), (3, .int (1 <<< ((2 * (v2 4 4)) &&& 31))), (4, .int 0), (5, .int 1)]) rfl ?_
      exact bX5_never_44 X  _ _ _ _ _ _ _  h
    · replace h := gF c h
      refine g_bipush X (-2) dX5_never_9 (by decide) ?_
      exact g_iretR X h dX5_never_11

theorem mX5_never {l : Launch} {D : va_G} {cA : Nat → ClassId} {r : Nat → Nat} {v : gV} {x1 : Int32} {xr : Int32} {v' : gV} (h : fX5_never v x1 = some (xr, v')) : Ct l D (tysC cA) (shC cA r) 50 r (ZC r) yX5_never cX5_never 6 (some .int) rmX5_never [.ref (r 0), .int x1] v (some (.int xr)) v' := ct_of plX5 ZC_ok (Nat.le_of_ble_eq_true rfl) rfl (fun _ X => bX5_never_0 X v x1 h)

def rmX5_when : Room := { frames := 5, cells := 0, slots := 0, locals := 122 }

set_option maxHeartbeats 4000000 in
set_option maxRecDepth 100000 in
theorem bX5_when_73 {l : Launch} {D : va_G} {cA : Nat → ClassId} {r : Nat → Nat} {G : gG} {xr : Int32} {v' : gV} {k19 : gV → Int32 → Int32 → Int32 → Int32 → Option (Int32 × gV)} (X : XC l D cA r RX5 cX5_when 6 (some .int) rmX5_when (some (.int xr)) v' G) (K19 : ∀ (v : gV) (x1 : Int32) (x2 : Int32) (x3 : Int32) (x4 : Int32), k19 v x1 x2 x3 x4 = some (xr, v') → G v [(0, .ref (r 0)), (1, .int x1), (2, .int x2), (3, .int x3), (4, .int x4)] 19 []) (v : gV) (x1 : Int32) (x2 : Int32) (x3 : Int32) (x4 : Int32) (h : fX5_when_73 k19 v x1 x2 x3 x4 = some (xr, v')) : G v [(0, .ref (r 0)), (1, .int x1), (2, .int x2), (3, .int x3), (4, .int x4)] 73 [] := by
  unfold fX5_when_73 at h
  refine g_iinc X (x4 + 1) [(4, .int (x4 + 1)), (0, .ref (r 0)), (1, .int x1), (2, .int x2), (3, .int x3)] dX5_when_73 4 rfl rfl (by decide) rfl ?_
  refine g_goto X 19 dX5_when_76 (by decide) ?_
  refine g_sub X [1, 2, 3, 4, 0] (ls' := [(0, .ref (r 0)), (1, .int x1), (2, .int x2), (3, .int x3), (4, .int (x4 + 1))]) rfl ?_
  exact K19 _ _ _ _ _  h

set_option maxHeartbeats 4000000 in
set_option maxRecDepth 100000 in
theorem bX5_when_19 {l : Launch} {D : va_G} {cA : Nat → ClassId} {r : Nat → Nat} {G : gG} {xr : Int32} {v' : gV} (X : XC l D cA r RX5 cX5_when 6 (some .int) rmX5_when (some (.int xr)) v' G) : ∀ (n : Nat) (v : gV) (x1 : Int32) (x2 : Int32) (x3 : Int32) (x4 : Int32), fX5_when_19 n v x1 x2 x3 x4 = some (xr, v') → G v [(0, .ref (r 0)), (1, .int x1), (2, .int x2), (3, .int x3), (4, .int x4)] 19 [] := by
  intro n
  induction n with
  | zero => intro v x1 x2 x3 x4 h; rw [fX5_when_19] at h; cases h
  | succ n ih =>
    intro v x1 x2 x3 x4 h
    rw [fX5_when_19] at h
    refine g_iload X dX5_when_19 4 rfl ?_
    refine g_bipush X 14 dX5_when_21 (by decide) ?_
    refine g_icmp_ge X 79 dX5_when_23 (by decide) (fun c => ?_) (fun c => ?_)
    · replace h := gTr c h
      refine g_iload_n X dX5_when_79 rfl 1 rfl ?_
      refine g_if_ne X 87 dX5_when_80 (by decide) (fun c => ?_) (fun c => ?_)
      · replace h := gF c h
        refine g_iload_n X dX5_when_87 rfl 2 rfl ?_
        exact g_iretR X h dX5_when_88
      · replace h := gTr c h
        refine g_iload_n X dX5_when_83 rfl 3 rfl ?_
        refine g_goto X 88 dX5_when_84 (by decide) ?_
        exact g_iretR X h dX5_when_88
    · replace h := gF c h
      refine g_aload_n X dX5_when_26 rfl 0 rfl ?_
      obtain ⟨y1, v2, hc3, h⟩ := gB_inv h
      refine g_callV X (st := []) (st' := [.ref (r 2)]) kcX5_startThought kvX5_startThought kl5_158 (⟨rfl, rfl, by decide, by decide⟩) (mX5_startThought hc3) hNC_0 (shC_0 _) rfl rfl rfl (Nat.le_of_ble_eq_true rfl) rfl dX5_when_27 ?_
      refine g_astore X (ls' := [(5, .ref (r 2)), (0, .ref (r 0)), (1, .int x1), (2, .int x2), (3, .int x3), (4, .int x4)]) dX5_when_30 (by decide) rfl ?_
      refine g_aload X dX5_when_32 0 rfl ?_
      refine g_bipush X 6 dX5_when_34 (by decide) ?_
      refine g_dup2 X dX5_when_36 rfl rfl ?_
      refine g_ialdK X 6 hNC_2 (shC_2 _) rfl vin_6_7 dX5_when_37 ?_
      refine g_iload X dX5_when_38 5 rfl ?_
      refine g_iadd X dX5_when_40 ?_
      refine g_iastK X 6 hNC_2 (shC_2) rfl vin_6_7 dX5_when_41 ?_
      refine g_aload_n X dX5_when_42 rfl 1 rfl ?_
      refine g_aload X dX5_when_43 0 rfl ?_
      refine g_sipush X 200 dX5_when_45 (by decide) ?_
      refine g_iconst X (-1) dX5_when_48 (by decide) ?_
      refine g_aload_n X dX5_when_49 rfl 1 rfl ?_
      refine g_get X fl5_73 hNC_0 (shC_0 _) rfl dX5_when_50 ?_
      obtain ⟨y4, v5, hc6, h⟩ := gB_inv h
      refine g_callV X (st := []) (st' := [.int y4]) kcX5_runGreedily kvX5_runGreedily kl5_162 (⟨rfl, rfl, by decide, by decide⟩) (mX5_runGreedily gRow_2 hc6) hNC_0 (shC_0 _) rfl rfl rfl (Nat.le_of_ble_eq_true rfl) rfl dX5_when_53 ?_
      refine g_pop X dX5_when_56 rfl ?_
      refine g_aload X dX5_when_57 0 rfl ?_
      refine g_iconst X 5 dX5_when_59 (by decide) ?_
      refine g_ialdK X 5 hNC_2 (shC_2 _) rfl vin_5_7 dX5_when_60 ?_
      refine g_iload_n X dX5_when_61 rfl 3 rfl ?_
      refine g_icmp_le X 73 dX5_when_62 (by decide) (fun c => ?_) (fun c => ?_)
      · replace h := gTr c h
        refine g_sub X [1, 2, 3, 4, 5] (ls' := [(0, .ref (r 0)), (1, .int x1), (2, .int x2), (3, .int x3), (4, .int x4)]) rfl ?_
        exact bX5_when_73 X ih _ _ _ _ _  h
      · replace h := gF c h
        refine g_aload X dX5_when_65 0 rfl ?_
        refine g_iconst X 5 dX5_when_67 (by decide) ?_
        refine g_ialdK X 5 hNC_2 (shC_2 _) rfl vin_5_7 dX5_when_68 ?_
        refine g_istore_n X (ls' := [(2, .int (v5 2 5)), (5, .ref (r 2)), (0, .ref (r 0)), (1, .int x1), (3, .int x3), (4, .int x4)]) dX5_when_69 rfl (by decide) rfl ?_
        refine g_iload X dX5_when_70 5 rfl ?_
        refine g_istore_n X (ls' := [(3, .int x4), (2, .int (v5 2 5)), (5, .ref (r 2)), (0, .ref (r 0)), (1, .int x1), (4, .int x4)]) dX5_when_72 rfl (by decide) rfl ?_
        refine g_sub X [3, 4, 1, 0, 5] (ls' := [(0, .ref (r 0)), (1, .int x1), (2, .int (v5 2 5)), (3, .int x4), (4, .int x4)]) rfl ?_
        exact bX5_when_73 X ih _ _ _ _ _  h

set_option maxHeartbeats 4000000 in
set_option maxRecDepth 100000 in
theorem bX5_when_0 {l : Launch} {D : va_G} {cA : Nat → ClassId} {r : Nat → Nat} {G : gG} {xr : Int32} {v' : gV} (X : XC l D cA r RX5 cX5_when 6 (some .int) rmX5_when (some (.int xr)) v' G) (v : gV) (x1 : Int32) (h : fX5_when v x1 = some (xr, v')) : G v [(0, .ref (r 0)), (1, .int x1)] 0 [] := by
  unfold fX5_when at h
  refine g_iload_n X dX5_when_0 rfl 1 rfl ?_
  refine g_if_lt X 9 dX5_when_1 (by decide) (fun c => ?_) (fun c => ?_)
  · replace h := gTr c h
    refine g_bipush X (-2) dX5_when_9 (by decide) ?_
    exact g_iretR X h dX5_when_11
  · replace h := gF c h
    refine g_iload_n X dX5_when_4 rfl 1 rfl ?_
    refine g_iconst X 1 dX5_when_5 (by decide) ?_
    refine g_icmp_le X 12 dX5_when_6 (by decide) (fun c => ?_) (fun c => ?_)
    · replace h := gTr c h
      refine g_iconst X (-1) dX5_when_12 (by decide) ?_
      refine g_istore_n X (ls' := [(2, .int (-1)), (0, .ref (r 0)), (1, .int x1)]) dX5_when_13 rfl (by decide) rfl ?_
      refine g_iconst X 0 dX5_when_14 (by decide) ?_
      refine g_istore_n X (ls' := [(3, .int 0), (2, .int (-1)), (0, .ref (r 0)), (1, .int x1)]) dX5_when_15 rfl (by decide) rfl ?_
      refine g_iconst X 0 dX5_when_16 (by decide) ?_
      refine g_istore X (ls' := [(4, .int 0), (3, .int 0), (2, .int (-1)), (0, .ref (r 0)), (1, .int x1)]) dX5_when_17 (by decide) rfl ?_
      refine g_sub X [3, 4, 2, 1, 0] (ls' := [(0, .ref (r 0)), (1, .int x1), (2, .int (-1)), (3, .int 0), (4, .int 0)]) rfl ?_
      exact bX5_when_19 X  _ _ _ _ _ _  h
    · replace h := gF c h
      refine g_bipush X (-2) dX5_when_9 (by decide) ?_
      exact g_iretR X h dX5_when_11

theorem mX5_when {l : Launch} {D : va_G} {cA : Nat → ClassId} {r : Nat → Nat} {v : gV} {x1 : Int32} {xr : Int32} {v' : gV} (h : fX5_when v x1 = some (xr, v')) : Ct l D (tysC cA) (shC cA r) 50 r (ZC r) yX5_when cX5_when 6 (some .int) rmX5_when [.ref (r 0), .int x1] v (some (.int xr)) v' := ct_of plX5 ZC_ok (Nat.le_of_ble_eq_true rfl) rfl (fun _ X => bX5_when_0 X v x1 h)

def rmX5_firstWrong : Room := { frames := 4, cells := 0, slots := 0, locals := 96 }

set_option maxHeartbeats 4000000 in
set_option maxRecDepth 100000 in
theorem bX5_firstWrong_17 {l : Launch} {D : va_G} {cA : Nat → ClassId} {r : Nat → Nat} {G : gG} {xr : Int32} {v' : gV} (X : XC l D cA r RX5 cX5_firstWrong 6 (some .int) rmX5_firstWrong (some (.int xr)) v' G) : ∀ (n : Nat) (v : gV) (x1 : Int32) (x3 : Int32) (x4 : Int32), fX5_firstWrong_17 n v x1 x3 x4 = some (xr, v') → G v [(0, .ref (r 0)), (1, .int x1), (2, .ref (r 2)), (3, .int x3), (4, .int x4)] 17 [] := by
  intro n
  induction n with
  | zero => intro v x1 x3 x4 h; rw [fX5_firstWrong_17] at h; cases h
  | succ n ih =>
    intro v x1 x3 x4 h
    rw [fX5_firstWrong_17] at h
    refine g_iload X dX5_firstWrong_17 4 rfl ?_
    refine g_iload_n X dX5_firstWrong_19 rfl 3 rfl ?_
    refine g_icmp_ge X 74 dX5_firstWrong_20 (by decide) (fun c => ?_) (fun c => ?_)
    · replace h := gTr c h
      refine g_iconst X (-1) dX5_firstWrong_74 (by decide) ?_
      exact g_iretR X h dX5_firstWrong_75
    · replace h := gF c h
      refine g_aload_n X dX5_firstWrong_23 rfl 0 rfl ?_
      refine g_get X fl5_44 hNC_0 (shC_0 _) rfl dX5_firstWrong_24 ?_
      refine g_iload_n X dX5_firstWrong_27 rfl 1 rfl ?_
      refine g_iload X dX5_firstWrong_28 4 rfl ?_
      obtain ⟨y7, v8, hc9, h⟩ := gB_inv h
      refine g_callV X (st := []) (st' := [.int y7]) kcX2_get kvX2_get kl5_239 (⟨rfl, rfl, by decide, by decide⟩) (mX2_get hc9) hNC_7 (shC_7 _) rfl rfl rfl (Nat.le_of_ble_eq_true rfl) rfl dX5_firstWrong_30 ?_
      refine g_istore X (ls' := [(5, .int y7), (0, .ref (r 0)), (1, .int x1), (2, .ref (r 2)), (3, .int x3), (4, .int x4)]) dX5_firstWrong_33 (by decide) rfl ?_
      refine g_aload_n X dX5_firstWrong_35 rfl 1 rfl ?_
      refine g_iload X dX5_firstWrong_36 0 rfl ?_
      obtain ⟨y10, v11, hc12, h⟩ := gB_inv h
      refine g_callV X (st := []) (st' := [.int y10]) kcX5_isMove kvX5_isMove kl5_147 (⟨rfl, rfl, by decide, by decide⟩) (mX5_isMove hc12) hNC_0 (shC_0 _) rfl rfl rfl (Nat.le_of_ble_eq_true rfl) rfl dX5_firstWrong_38 ?_
      refine g_if_eq X 54 dX5_firstWrong_41 (by decide) (fun c => ?_) (fun c => ?_)
      · replace h := gTr c h
        refine g_iload X dX5_firstWrong_54 5 rfl ?_
        exact g_iretR X h dX5_firstWrong_56
      · replace h := gF c h
        refine g_aload_n X dX5_firstWrong_44 rfl 1 rfl ?_
        refine g_aload_n X dX5_firstWrong_45 rfl 3 rfl ?_
        refine g_iload X dX5_firstWrong_46 0 rfl ?_
        obtain ⟨y13, v14, hc15, h⟩ := gB_inv h
        refine g_callV X (st := []) (st' := [.int y13]) kcX5_canMake kvX5_canMake kl5_150 (⟨rfl, rfl, by decide, by decide⟩) (mX5_canMake gRow_2 hc15) hNC_0 (shC_0 _) rfl rfl rfl (Nat.le_of_ble_eq_true rfl) rfl dX5_firstWrong_48 ?_
        refine g_if_ne X 57 dX5_firstWrong_51 (by decide) (fun c => ?_) (fun c => ?_)
        · replace h := gF c h
          refine g_aload_n X dX5_firstWrong_57 rfl 1 rfl ?_
          refine g_aload_n X dX5_firstWrong_58 rfl 3 rfl ?_
          refine g_iload X dX5_firstWrong_59 0 rfl ?_
          refine g_aload_n X dX5_firstWrong_61 rfl 1 rfl ?_
          refine g_get X fl5_73 hNC_0 (shC_0 _) rfl dX5_firstWrong_62 ?_
          obtain ⟨y16, v17, hc18, h⟩ := gB_inv h
          refine g_callV X (st := []) (st' := []) kcX5_make kvX5_make kl5_154 (⟨rfl, rfl, by decide, by decide⟩) (mX5_make gRow_2 hc18) hNC_0 (shC_0 _) rfl rfl rfl (Nat.le_of_ble_eq_true rfl) rfl dX5_firstWrong_65 ?_
          refine g_iinc X (x4 + 1) [(4, .int (x4 + 1)), (5, .int y7), (0, .ref (r 0)), (1, .int x1), (2, .ref (r 2)), (3, .int x3)] dX5_firstWrong_68 5 rfl rfl (by decide) rfl ?_
          refine g_goto X 17 dX5_firstWrong_71 (by decide) ?_
          refine g_sub X [2, 3, 4, 5, 0] (ls' := [(0, .ref (r 0)), (1, .int x1), (2, .ref (r 2)), (3, .int x3), (4, .int (x4 + 1))]) rfl ?_
          exact ih _ _ _ _  h
        · replace h := gTr c h
          refine g_iload X dX5_firstWrong_54 5 rfl ?_
          exact g_iretR X h dX5_firstWrong_56

set_option maxHeartbeats 4000000 in
set_option maxRecDepth 100000 in
theorem bX5_firstWrong_0 {l : Launch} {D : va_G} {cA : Nat → ClassId} {r : Nat → Nat} {G : gG} {xr : Int32} {v' : gV} (X : XC l D cA r RX5 cX5_firstWrong 6 (some .int) rmX5_firstWrong (some (.int xr)) v' G) (v : gV) (x1 : Int32) (h : fX5_firstWrong v x1 = some (xr, v')) : G v [(0, .ref (r 0)), (1, .int x1)] 0 [] := by
  unfold fX5_firstWrong at h
  refine g_aload_n X dX5_firstWrong_0 rfl 0 rfl ?_
  obtain ⟨y1, v2, hc3, h⟩ := gB_inv h
  refine g_callV X (st := []) (st' := [.ref (r 2)]) kcX5_startThought kvX5_startThought kl5_158 (⟨rfl, rfl, by decide, by decide⟩) (mX5_startThought hc3) hNC_0 (shC_0 _) rfl rfl rfl (Nat.le_of_ble_eq_true rfl) rfl dX5_firstWrong_1 ?_
  refine g_astore_n X (ls' := [(2, .ref (r 2)), (0, .ref (r 0)), (1, .int x1)]) dX5_firstWrong_4 rfl (by decide) rfl ?_
  refine g_aload_n X dX5_firstWrong_5 rfl 1 rfl ?_
  refine g_get X fl5_44 hNC_0 (shC_0 _) rfl dX5_firstWrong_6 ?_
  refine g_iload_n X dX5_firstWrong_9 rfl 2 rfl ?_
  obtain ⟨y4, v5, hc6, h⟩ := gB_inv h
  refine g_callV X (st := []) (st' := [.int y4]) kcX2_sizeOf kvX2_sizeOf kl5_236 (⟨rfl, rfl, by decide, by decide⟩) (mX2_sizeOf hc6) hNC_7 (shC_7 _) rfl rfl rfl (Nat.le_of_ble_eq_true rfl) rfl dX5_firstWrong_10 ?_
  refine g_istore_n X (ls' := [(3, .int y4), (2, .ref (r 2)), (0, .ref (r 0)), (1, .int x1)]) dX5_firstWrong_13 rfl (by decide) rfl ?_
  refine g_iconst X 0 dX5_firstWrong_14 (by decide) ?_
  refine g_istore X (ls' := [(4, .int 0), (3, .int y4), (2, .ref (r 2)), (0, .ref (r 0)), (1, .int x1)]) dX5_firstWrong_15 (by decide) rfl ?_
  refine g_sub X [3, 4, 2, 1, 0] (ls' := [(0, .ref (r 0)), (1, .int x1), (2, .ref (r 2)), (3, .int y4), (4, .int 0)]) rfl ?_
  exact bX5_firstWrong_17 X  _ _ _ _ _  h

theorem mX5_firstWrong {l : Launch} {D : va_G} {cA : Nat → ClassId} {r : Nat → Nat} {v : gV} {x1 : Int32} {xr : Int32} {v' : gV} (h : fX5_firstWrong v x1 = some (xr, v')) : Ct l D (tysC cA) (shC cA r) 50 r (ZC r) yX5_firstWrong cX5_firstWrong 6 (some .int) rmX5_firstWrong [.ref (r 0), .int x1] v (some (.int xr)) v' := ct_of plX5 ZC_ok (Nat.le_of_ble_eq_true rfl) rfl (fun _ X => bX5_firstWrong_0 X v x1 h)

def rmX5_judge : Room := { frames := 5, cells := 0, slots := 0, locals := 121 }

set_option maxHeartbeats 4000000 in
set_option maxRecDepth 100000 in
theorem bX5_judge_0 {l : Launch} {D : va_G} {cA : Nat → ClassId} {r : Nat → Nat} {G : gG} {xr : Int32} {v' : gV} (X : XC l D cA r RX5 cX5_judge 3 (some .int) rmX5_judge (some (.int xr)) v' G) (v : gV) (x1 : Int32) (h : fX5_judge v x1 = some (xr, v')) : G v [(0, .ref (r 0)), (1, .int x1)] 0 [] := by
  unfold fX5_judge at h
  refine g_aload_n X dX5_judge_0 rfl 0 rfl ?_
  refine g_get X fl5_44 hNC_0 (shC_0 _) rfl dX5_judge_1 ?_
  refine g_iload_n X dX5_judge_4 rfl 1 rfl ?_
  obtain ⟨y1, v2, hc3, h⟩ := gB_inv h
  refine g_callV X (st := []) (st' := [.int y1]) kcX2_refusal kvX2_refusal kl5_218 (⟨rfl, rfl, by decide, by decide⟩) (mX2_refusal hc3) hNC_7 (shC_7 _) rfl rfl rfl (Nat.le_of_ble_eq_true rfl) rfl dX5_judge_5 ?_
  refine g_istore_n X (ls' := [(2, .int y1), (0, .ref (r 0)), (1, .int x1)]) dX5_judge_8 rfl (by decide) rfl ?_
  refine g_iload_n X dX5_judge_9 rfl 0 rfl ?_
  refine g_if_eq X 17 dX5_judge_10 (by decide) (fun c => ?_) (fun c => ?_)
  · replace h := gTr c h
    refine g_aload_n X dX5_judge_17 rfl 1 rfl ?_
    refine g_iload_n X dX5_judge_18 rfl 2 rfl ?_
    obtain ⟨y4, v5, hc6, h⟩ := gB_inv h
    refine g_callV X (st := []) (st' := [.int y4]) kcX5_firstWrong kvX5_firstWrong kl5_221 (⟨rfl, rfl, by decide, by decide⟩) (mX5_firstWrong hc6) hNC_0 (shC_0 _) rfl rfl rfl (Nat.le_of_ble_eq_true rfl) rfl dX5_judge_19 ?_
    exact g_iretR X h dX5_judge_22
  · replace h := gF c h
    refine g_iload_n X dX5_judge_13 rfl 0 rfl ?_
    refine g_goto X 22 dX5_judge_14 (by decide) ?_
    exact g_iretR X h dX5_judge_22

theorem mX5_judge {l : Launch} {D : va_G} {cA : Nat → ClassId} {r : Nat → Nat} {v : gV} {x1 : Int32} {xr : Int32} {v' : gV} (h : fX5_judge v x1 = some (xr, v')) : Ct l D (tysC cA) (shC cA r) 50 r (ZC r) yX5_judge cX5_judge 3 (some .int) rmX5_judge [.ref (r 0), .int x1] v (some (.int xr)) v' := ct_of plX5 ZC_ok (Nat.le_of_ble_eq_true rfl) rfl (fun _ X => bX5_judge_0 X v x1 h)

def rmX5_behind : Room := { frames := 5, cells := 0, slots := 0, locals := 121 }

set_option maxHeartbeats 4000000 in
set_option maxRecDepth 100000 in
theorem bX5_behind_0 {l : Launch} {D : va_G} {cA : Nat → ClassId} {r : Nat → Nat} {G : gG} {xr : Int32} {v' : gV} (X : XC l D cA r RX5 cX5_behind 4 (some .int) rmX5_behind (some (.int xr)) v' G) (v : gV) (x1 : Int32) (x2 : Int32) (h : fX5_behind v x1 x2 = some (xr, v')) : G v [(0, .ref (r 0)), (1, .int x1), (2, .int x2)] 0 [] := by
  unfold fX5_behind at h
  refine g_aload_n X dX5_behind_0 rfl 0 rfl ?_
  refine g_get X fl5_44 hNC_0 (shC_0 _) rfl dX5_behind_1 ?_
  refine g_iload_n X dX5_behind_4 rfl 1 rfl ?_
  obtain ⟨y1, v2, hc3, h⟩ := gB_inv h
  refine g_callV X (st := []) (st' := [.int y1]) kcX2_refusal kvX2_refusal kl5_218 (⟨rfl, rfl, by decide, by decide⟩) (mX2_refusal hc3) hNC_7 (shC_7 _) rfl rfl rfl (Nat.le_of_ble_eq_true rfl) rfl dX5_behind_5 ?_
  refine g_istore_n X (ls' := [(3, .int y1), (0, .ref (r 0)), (1, .int x1), (2, .int x2)]) dX5_behind_8 rfl (by decide) rfl ?_
  refine g_iload_n X dX5_behind_9 rfl 0 rfl ?_
  refine g_if_eq X 15 dX5_behind_10 (by decide) (fun c => ?_) (fun c => ?_)
  · replace h := gTr c h
    refine g_iload_n X dX5_behind_15 rfl 3 rfl ?_
    refine g_if_lt X 25 dX5_behind_16 (by decide) (fun c => ?_) (fun c => ?_)
    · replace h := gTr c h
      refine g_bipush X (-7) dX5_behind_25 (by decide) ?_
      exact g_iretR X h dX5_behind_27
    · replace h := gF c h
      refine g_iload_n X dX5_behind_19 rfl 3 rfl ?_
      refine g_bipush X 7 dX5_behind_20 (by decide) ?_
      refine g_icmp_lt X 28 dX5_behind_22 (by decide) (fun c => ?_) (fun c => ?_)
      · replace h := gTr c h
        refine g_aload_n X dX5_behind_28 rfl 1 rfl ?_
        refine g_iload_n X dX5_behind_29 rfl 2 rfl ?_
        obtain ⟨y4, v5, hc6, h⟩ := gB_inv h
        refine g_callV X (st := []) (st' := [.int y4]) kcX5_firstWrong kvX5_firstWrong kl5_221 (⟨rfl, rfl, by decide, by decide⟩) (mX5_firstWrong hc6) hNC_0 (shC_0 _) rfl rfl rfl (Nat.le_of_ble_eq_true rfl) rfl dX5_behind_30 ?_
        refine g_iconst X (-1) dX5_behind_33 (by decide) ?_
        refine g_icmp_eq X 40 dX5_behind_34 (by decide) (fun c => ?_) (fun c => ?_)
        · replace h := gTr c h
          refine g_aload_n X dX5_behind_40 rfl 1 rfl ?_
          refine g_get X fl5_13 hNC_0 (shC_0 _) rfl dX5_behind_41 ?_
          refine g_iload_n X dX5_behind_44 rfl 3 rfl ?_
          obtain ⟨c, h⟩ := gGd h
          refine g_iald X hNC_2 (shC_2 _) rfl (gin_in c) dX5_behind_45 ?_
          exact g_iretR X h dX5_behind_46
        · replace h := gF c h
          refine g_bipush X (-9) dX5_behind_37 (by decide) ?_
          exact g_iretR X h dX5_behind_39
      · replace h := gF c h
        refine g_bipush X (-7) dX5_behind_25 (by decide) ?_
        exact g_iretR X h dX5_behind_27
  · replace h := gF c h
    refine g_iload_n X dX5_behind_13 rfl 0 rfl ?_
    exact g_iretR X h dX5_behind_14

theorem mX5_behind {l : Launch} {D : va_G} {cA : Nat → ClassId} {r : Nat → Nat} {v : gV} {x1 : Int32} {x2 : Int32} {xr : Int32} {v' : gV} (h : fX5_behind v x1 x2 = some (xr, v')) : Ct l D (tysC cA) (shC cA r) 50 r (ZC r) yX5_behind cX5_behind 4 (some .int) rmX5_behind [.ref (r 0), .int x1, .int x2] v (some (.int xr)) v' := ct_of plX5 ZC_ok (Nat.le_of_ble_eq_true rfl) rfl (fun _ X => bX5_behind_0 X v x1 x2 h)

def rmX5_film : Room := { frames := 4, cells := 0, slots := 0, locals := 96 }

set_option maxHeartbeats 4000000 in
set_option maxRecDepth 100000 in
theorem bX5_film_41 {l : Launch} {D : va_G} {cA : Nat → ClassId} {r : Nat → Nat} {G : gG} {xr : Int32} {v' : gV} (X : XC l D cA r RX5 cX5_film 6 (some .int) rmX5_film (some (.int xr)) v' G) : ∀ (n : Nat) (v : gV) (x1 : Int32) (x2 : Int32) (x4 : Int32), fX5_film_41 n v x1 x2 x4 = some (xr, v') → G v [(0, .ref (r 0)), (1, .int x1), (2, .int x2), (3, .ref (r 2)), (4, .int x4)] 41 [] := by
  intro n
  induction n with
  | zero => intro v x1 x2 x4 h; rw [fX5_film_41] at h; cases h
  | succ n ih =>
    intro v x1 x2 x4 h
    rw [fX5_film_41] at h
    refine g_iload X dX5_film_41 4 rfl ?_
    refine g_iload_n X dX5_film_43 rfl 2 rfl ?_
    refine g_icmp_ge X 103 dX5_film_44 (by decide) (fun c => ?_) (fun c => ?_)
    · replace h := gTr c h
      refine g_iload_n X dX5_film_103 rfl 2 rfl ?_
      exact g_iretR X h dX5_film_104
    · replace h := gF c h
      refine g_aload_n X dX5_film_47 rfl 0 rfl ?_
      refine g_aload_n X dX5_film_48 rfl 3 rfl ?_
      refine g_iconst X (-1) dX5_film_49 (by decide) ?_
      obtain ⟨y10, v11, hc12, h⟩ := gB_inv h
      refine g_callV X (st := []) (st' := [.int y10]) kcX5_pick kvX5_pick kl5_166 (⟨rfl, rfl, by decide, by decide⟩) (mX5_pick gRow_2 hc12) hNC_0 (shC_0 _) rfl rfl rfl (Nat.le_of_ble_eq_true rfl) rfl dX5_film_50 ?_
      refine g_istore X (ls' := [(5, .int y10), (0, .ref (r 0)), (1, .int x1), (2, .int x2), (3, .ref (r 2)), (4, .int x4)]) dX5_film_53 (by decide) rfl ?_
      refine g_iload X dX5_film_55 0 rfl ?_
      refine g_iconst X (-1) dX5_film_57 (by decide) ?_
      refine g_icmp_ne X 74 dX5_film_58 (by decide) (fun c => ?_) (fun c => ?_)
      · replace h := gF c h
        refine g_aload_n X dX5_film_74 rfl 1 rfl ?_
        refine g_get X fl5_44 hNC_0 (shC_0 _) rfl dX5_film_75 ?_
        refine g_iload_n X dX5_film_78 rfl 2 rfl ?_
        refine g_iload X dX5_film_79 5 rfl ?_
        refine g_iload X dX5_film_81 0 rfl ?_
        obtain ⟨y13, v14, hc15, h⟩ := gB_inv h
        refine g_callV X (st := []) (st' := []) kcX2_put kvX2_put kl5_234 (⟨rfl, rfl, by decide, by decide⟩) (mX2_put hc15) hNC_7 (shC_7 _) rfl rfl rfl (Nat.le_of_ble_eq_true rfl) rfl dX5_film_83 ?_
        refine g_aload_n X dX5_film_86 rfl 1 rfl ?_
        refine g_aload_n X dX5_film_87 rfl 4 rfl ?_
        refine g_iload X dX5_film_88 0 rfl ?_
        refine g_aload_n X dX5_film_90 rfl 1 rfl ?_
        refine g_get X fl5_73 hNC_0 (shC_0 _) rfl dX5_film_91 ?_
        obtain ⟨y16, v17, hc18, h⟩ := gB_inv h
        refine g_callV X (st := []) (st' := []) kcX5_make kvX5_make kl5_154 (⟨rfl, rfl, by decide, by decide⟩) (mX5_make gRow_2 hc18) hNC_0 (shC_0 _) rfl rfl rfl (Nat.le_of_ble_eq_true rfl) rfl dX5_film_94 ?_
        refine g_iinc X (x4 + 1) [(4, .int (x4 + 1)), (5, .int y10), (0, .ref (r 0)), (1, .int x1), (2, .int x2), (3, .ref (r 2))] dX5_film_97 5 rfl rfl (by decide) rfl ?_
        refine g_goto X 41 dX5_film_100 (by decide) ?_
        refine g_sub X [2, 3, 4, 5, 0] (ls' := [(0, .ref (r 0)), (1, .int x1), (2, .int x2), (3, .ref (r 2)), (4, .int (x4 + 1))]) rfl ?_
        exact ih _ _ _ _  h
      · replace h := gTr c h
        refine g_aload_n X dX5_film_61 rfl 1 rfl ?_
        refine g_get X fl5_44 hNC_0 (shC_0 _) rfl dX5_film_62 ?_
        refine g_iload_n X dX5_film_65 rfl 2 rfl ?_
        refine g_iload X dX5_film_66 5 rfl ?_
        obtain ⟨y19, v20, hc21, h⟩ := gB_inv h
        refine g_callV X (st := []) (st' := []) kcX2_shorten kvX2_shorten kl5_230 (⟨rfl, rfl, by decide, by decide⟩) (mX2_shorten hc21) hNC_7 (shC_7 _) rfl rfl rfl (Nat.le_of_ble_eq_true rfl) rfl dX5_film_68 ?_
        refine g_iload X dX5_film_71 5 rfl ?_
        exact g_iretR X h dX5_film_73

set_option maxHeartbeats 4000000 in
set_option maxRecDepth 100000 in
theorem bX5_film_0 {l : Launch} {D : va_G} {cA : Nat → ClassId} {r : Nat → Nat} {G : gG} {xr : Int32} {v' : gV} (X : XC l D cA r RX5 cX5_film 6 (some .int) rmX5_film (some (.int xr)) v' G) (v : gV) (x1 : Int32) (x2 : Int32) (h : fX5_film v x1 x2 = some (xr, v')) : G v [(0, .ref (r 0)), (1, .int x1), (2, .int x2)] 0 [] := by
  unfold fX5_film at h
  refine g_iload_n X dX5_film_0 rfl 1 rfl ?_
  obtain ⟨y1, v2, hc3, h⟩ := gB_inv h
  refine g_callS X (st := []) (st' := [.int y1]) kcX2_isSheet ktX2_isSheet kl5_224 (⟨rfl, rfl, by decide, by decide⟩) (mX2_isSheet hc3) rfl rfl (Nat.le_of_ble_eq_true rfl) rfl dX5_film_1 ?_
  refine g_if_ne X 10 dX5_film_4 (by decide) (fun c => ?_) (fun c => ?_)
  · replace h := gF c h
    refine g_iload_n X dX5_film_10 rfl 2 rfl ?_
    refine g_if_lt X 20 dX5_film_11 (by decide) (fun c => ?_) (fun c => ?_)
    · replace h := gTr c h
      refine g_bipush X (-7) dX5_film_20 (by decide) ?_
      exact g_iretR X h dX5_film_22
    · replace h := gF c h
      refine g_iload_n X dX5_film_14 rfl 2 rfl ?_
      refine g_bipush X 40 dX5_film_15 (by decide) ?_
      refine g_icmp_le X 23 dX5_film_17 (by decide) (fun c => ?_) (fun c => ?_)
      · replace h := gTr c h
        refine g_aload_n X dX5_film_23 rfl 0 rfl ?_
        refine g_get X fl5_44 hNC_0 (shC_0 _) rfl dX5_film_24 ?_
        refine g_iload_n X dX5_film_27 rfl 1 rfl ?_
        refine g_iconst X 2 dX5_film_28 (by decide) ?_
        refine g_iload_n X dX5_film_29 rfl 2 rfl ?_
        obtain ⟨y4, v5, hc6, h⟩ := gB_inv h
        refine g_callV X (st := []) (st' := []) kcX2_become kvX2_become kl5_227 (⟨rfl, rfl, by decide, by decide⟩) (mX2_become hc6) hNC_7 (shC_7 _) rfl rfl rfl (Nat.le_of_ble_eq_true rfl) rfl dX5_film_30 ?_
        refine g_aload_n X dX5_film_33 rfl 0 rfl ?_
        obtain ⟨y7, v8, hc9, h⟩ := gB_inv h
        refine g_callV X (st := []) (st' := [.ref (r 2)]) kcX5_startThought kvX5_startThought kl5_158 (⟨rfl, rfl, by decide, by decide⟩) (mX5_startThought hc9) hNC_0 (shC_0 _) rfl rfl rfl (Nat.le_of_ble_eq_true rfl) rfl dX5_film_34 ?_
        refine g_astore_n X (ls' := [(3, .ref (r 2)), (0, .ref (r 0)), (1, .int x1), (2, .int x2)]) dX5_film_37 rfl (by decide) rfl ?_
        refine g_iconst X 0 dX5_film_38 (by decide) ?_
        refine g_istore X (ls' := [(4, .int 0), (3, .ref (r 2)), (0, .ref (r 0)), (1, .int x1), (2, .int x2)]) dX5_film_39 (by decide) rfl ?_
        refine g_sub X [2, 3, 4, 1, 0] (ls' := [(0, .ref (r 0)), (1, .int x1), (2, .int x2), (3, .ref (r 2)), (4, .int 0)]) rfl ?_
        exact bX5_film_41 X  _ _ _ _ _  h
      · replace h := gF c h
        refine g_bipush X (-7) dX5_film_20 (by decide) ?_
        exact g_iretR X h dX5_film_22
  · replace h := gTr c h
    refine g_bipush X (-2) dX5_film_7 (by decide) ?_
    exact g_iretR X h dX5_film_9

theorem mX5_film {l : Launch} {D : va_G} {cA : Nat → ClassId} {r : Nat → Nat} {v : gV} {x1 : Int32} {x2 : Int32} {xr : Int32} {v' : gV} (h : fX5_film v x1 x2 = some (xr, v')) : Ct l D (tysC cA) (shC cA r) 50 r (ZC r) yX5_film cX5_film 6 (some .int) rmX5_film [.ref (r 0), .int x1, .int x2] v (some (.int xr)) v' := ct_of plX5 ZC_ok (Nat.le_of_ble_eq_true rfl) rfl (fun _ X => bX5_film_0 X v x1 x2 h)

def rmX5_laws : Room := { frames := 5, cells := 0, slots := 0, locals := 122 }

set_option maxHeartbeats 4000000 in
set_option maxRecDepth 100000 in
theorem bX5_laws_58 {l : Launch} {D : va_G} {cA : Nat → ClassId} {r : Nat → Nat} {G : gG} {xr : Int32} {v' : gV} {k18 : gV → Int32 → Int32 → Int32 → Option (Int32 × gV)} (X : XC l D cA r RX5 cX5_laws 5 (some .int) rmX5_laws (some (.int xr)) v' G) (K18 : ∀ (v : gV) (x1 : Int32) (x2 : Int32) (x3 : Int32), k18 v x1 x2 x3 = some (xr, v') → G v [(0, .ref (r 0)), (1, .int x1), (2, .int x2), (3, .int x3)] 18 []) (v : gV) (x1 : Int32) (x2 : Int32) (x3 : Int32) (h : fX5_laws_58 k18 v x1 x2 x3 = some (xr, v')) : G v [(0, .ref (r 0)), (1, .int x1), (2, .int x2), (3, .int x3)] 58 [] := by
  unfold fX5_laws_58 at h
  refine g_iinc X (x3 + 1) [(3, .int (x3 + 1)), (0, .ref (r 0)), (1, .int x1), (2, .int x2)] dX5_laws_58 3 rfl rfl (by decide) rfl ?_
  refine g_goto X 18 dX5_laws_61 (by decide) ?_
  refine g_sub X [1, 2, 3, 0] (ls' := [(0, .ref (r 0)), (1, .int x1), (2, .int x2), (3, .int (x3 + 1))]) rfl ?_
  exact K18 _ _ _ _  h

set_option maxHeartbeats 4000000 in
set_option maxRecDepth 100000 in
theorem bX5_laws_18 {l : Launch} {D : va_G} {cA : Nat → ClassId} {r : Nat → Nat} {G : gG} {xr : Int32} {v' : gV} (X : XC l D cA r RX5 cX5_laws 5 (some .int) rmX5_laws (some (.int xr)) v' G) : ∀ (n : Nat) (v : gV) (x1 : Int32) (x2 : Int32) (x3 : Int32), fX5_laws_18 n v x1 x2 x3 = some (xr, v') → G v [(0, .ref (r 0)), (1, .int x1), (2, .int x2), (3, .int x3)] 18 [] := by
  intro n
  induction n with
  | zero => intro v x1 x2 x3 h; rw [fX5_laws_18] at h; cases h
  | succ n ih =>
    intro v x1 x2 x3 h
    rw [fX5_laws_18] at h
    refine g_iload_n X dX5_laws_18 rfl 3 rfl ?_
    refine g_aload_n X dX5_laws_19 rfl 0 rfl ?_
    refine g_get X fl5_62 hNC_0 (shC_0 _) rfl dX5_laws_20 ?_
    refine g_icmp_ge X 64 dX5_laws_23 (by decide) (fun c => ?_) (fun c => ?_)
    · replace h := gTr c h
      refine g_iload_n X dX5_laws_64 rfl 2 rfl ?_
      exact g_iretR X h dX5_laws_65
    · replace h := gF c h
      refine g_aload_n X dX5_laws_26 rfl 0 rfl ?_
      obtain ⟨y1, v2, hc3, h⟩ := gB_inv h
      refine g_callV X (st := []) (st' := [.ref (r 2)]) kcX5_startThought kvX5_startThought kl5_158 (⟨rfl, rfl, by decide, by decide⟩) (mX5_startThought hc3) hNC_0 (shC_0 _) rfl rfl rfl (Nat.le_of_ble_eq_true rfl) rfl dX5_laws_27 ?_
      refine g_astore X (ls' := [(4, .ref (r 2)), (0, .ref (r 0)), (1, .int x1), (2, .int x2), (3, .int x3)]) dX5_laws_30 (by decide) rfl ?_
      refine g_aload_n X dX5_laws_32 rfl 1 rfl ?_
      refine g_aload X dX5_laws_33 0 rfl ?_
      refine g_sipush X 200 dX5_laws_35 (by decide) ?_
      refine g_iconst X (-1) dX5_laws_38 (by decide) ?_
      refine g_iload_n X dX5_laws_39 rfl 4 rfl ?_
      obtain ⟨y4, v5, hc6, h⟩ := gB_inv h
      refine g_callV X (st := []) (st' := [.int y4]) kcX5_runGreedily kvX5_runGreedily kl5_162 (⟨rfl, rfl, by decide, by decide⟩) (mX5_runGreedily gRow_2 hc6) hNC_0 (shC_0 _) rfl rfl rfl (Nat.le_of_ble_eq_true rfl) rfl dX5_laws_40 ?_
      refine g_pop X dX5_laws_43 rfl ?_
      refine g_aload X dX5_laws_44 0 rfl ?_
      refine g_iconst X 5 dX5_laws_46 (by decide) ?_
      refine g_ialdK X 5 hNC_2 (shC_2 _) rfl vin_5_7 dX5_laws_47 ?_
      refine g_iload_n X dX5_laws_48 rfl 2 rfl ?_
      refine g_icmp_ne X 58 dX5_laws_49 (by decide) (fun c => ?_) (fun c => ?_)
      · replace h := gF c h
        refine g_sub X [1, 2, 3, 4] (ls' := [(0, .ref (r 0)), (1, .int x1), (2, .int x2), (3, .int x3)]) rfl ?_
        exact bX5_laws_58 X ih _ _ _ _  h
      · replace h := gTr c h
        refine g_iload_n X dX5_laws_52 rfl 3 rfl ?_
        refine g_iconst X 1 dX5_laws_53 (by decide) ?_
        refine g_iload_n X dX5_laws_54 rfl 4 rfl ?_
        refine g_ishl X dX5_laws_55 ?_
        refine g_ior X dX5_laws_56 ?_
        refine g_istore_n X (ls' := [(2, .int (x2 ||| (1 <<< (x3 &&& 31)))), (4, .ref (r 2)), (0, .ref (r 0)), (1, .int x1), (3, .int x3)]) dX5_laws_57 rfl (by decide) rfl ?_
        refine g_sub X [2, 3, 0, 4] (ls' := [(0, .ref (r 0)), (1, .int x1), (2, .int (x2 ||| (1 <<< (x3 &&& 31)))), (3, .int x3)]) rfl ?_
        exact bX5_laws_58 X ih _ _ _ _  h

set_option maxHeartbeats 4000000 in
set_option maxRecDepth 100000 in
theorem bX5_laws_0 {l : Launch} {D : va_G} {cA : Nat → ClassId} {r : Nat → Nat} {G : gG} {xr : Int32} {v' : gV} (X : XC l D cA r RX5 cX5_laws 5 (some .int) rmX5_laws (some (.int xr)) v' G) (v : gV) (x1 : Int32) (h : fX5_laws v x1 = some (xr, v')) : G v [(0, .ref (r 0)), (1, .int x1)] 0 [] := by
  unfold fX5_laws at h
  refine g_iload_n X dX5_laws_0 rfl 1 rfl ?_
  refine g_if_lt X 11 dX5_laws_1 (by decide) (fun c => ?_) (fun c => ?_)
  · replace h := gTr c h
    refine g_bipush X (-2) dX5_laws_11 (by decide) ?_
    exact g_iretR X h dX5_laws_13
  · replace h := gF c h
    refine g_iload_n X dX5_laws_4 rfl 1 rfl ?_
    refine g_sipush X 999 dX5_laws_5 (by decide) ?_
    refine g_icmp_le X 14 dX5_laws_8 (by decide) (fun c => ?_) (fun c => ?_)
    · replace h := gTr c h
      refine g_iconst X 0 dX5_laws_14 (by decide) ?_
      refine g_istore_n X (ls' := [(2, .int 0), (0, .ref (r 0)), (1, .int x1)]) dX5_laws_15 rfl (by decide) rfl ?_
      refine g_iconst X 0 dX5_laws_16 (by decide) ?_
      refine g_istore_n X (ls' := [(3, .int 0), (2, .int 0), (0, .ref (r 0)), (1, .int x1)]) dX5_laws_17 rfl (by decide) rfl ?_
      refine g_sub X [2, 3, 1, 0] (ls' := [(0, .ref (r 0)), (1, .int x1), (2, .int 0), (3, .int 0)]) rfl ?_
      exact bX5_laws_18 X  _ _ _ _ _  h
    · replace h := gF c h
      refine g_bipush X (-2) dX5_laws_11 (by decide) ?_
      exact g_iretR X h dX5_laws_13

theorem mX5_laws {l : Launch} {D : va_G} {cA : Nat → ClassId} {r : Nat → Nat} {v : gV} {x1 : Int32} {xr : Int32} {v' : gV} (h : fX5_laws v x1 = some (xr, v')) : Ct l D (tysC cA) (shC cA r) 50 r (ZC r) yX5_laws cX5_laws 5 (some .int) rmX5_laws [.ref (r 0), .int x1] v (some (.int xr)) v' := ct_of plX5 ZC_ok (Nat.le_of_ble_eq_true rfl) rfl (fun _ X => bX5_laws_0 X v x1 h)

def rmX5_drunkByLot : Room := { frames := 4, cells := 0, slots := 0, locals := 96 }

set_option maxHeartbeats 4000000 in
set_option maxRecDepth 100000 in
theorem bX5_drunkByLot_113 {l : Launch} {D : va_G} {cA : Nat → ClassId} {r : Nat → Nat} {G : gG} {xr : Int32} {v' : gV} {k14 : gV → Int32 → Int64 → Int32 → Option (Int32 × gV)} (X : XC l D cA r RX5 cX5_drunkByLot 9 (some .int) rmX5_drunkByLot (some (.int xr)) v' G) (K14 : ∀ (v : gV) (x2 : Int32) (x4 : Int64) (x6 : Int32), k14 v x2 x4 x6 = some (xr, v') → G v [(0, .ref (r 0)), (2, .int x2), (3, .ref (r 2)), (4, .long x4), (6, .int x6)] 14 []) (v : gV) (x2 : Int32) (x4 : Int64) (x6 : Int32) (h : fX5_drunkByLot_113 k14 v x2 x4 x6 = some (xr, v')) : G v [(0, .ref (r 0)), (2, .int x2), (3, .ref (r 2)), (4, .long x4), (6, .int x6)] 113 [] := by
  unfold fX5_drunkByLot_113 at h
  refine g_iinc X (x6 + 1) [(6, .int (x6 + 1)), (0, .ref (r 0)), (2, .int x2), (3, .ref (r 2)), (4, .long x4)] dX5_drunkByLot_113 4 rfl rfl (by decide) rfl ?_
  refine g_goto X 14 dX5_drunkByLot_116 (by decide) ?_
  refine g_sub X [1, 2, 3, 4, 0] (ls' := [(0, .ref (r 0)), (2, .int x2), (3, .ref (r 2)), (4, .long x4), (6, .int (x6 + 1))]) rfl ?_
  exact K14 _ _ _ _  h

set_option maxHeartbeats 4000000 in
set_option maxRecDepth 100000 in
theorem bX5_drunkByLot_57 {l : Launch} {D : va_G} {cA : Nat → ClassId} {r : Nat → Nat} {G : gG} {xr : Int32} {v' : gV} {k14 : gV → Int32 → Int64 → Int32 → Option (Int32 × gV)} (X : XC l D cA r RX5 cX5_drunkByLot 9 (some .int) rmX5_drunkByLot (some (.int xr)) v' G) (K14 : ∀ (v : gV) (x2 : Int32) (x4 : Int64) (x6 : Int32), k14 v x2 x4 x6 = some (xr, v') → G v [(0, .ref (r 0)), (2, .int x2), (3, .ref (r 2)), (4, .long x4), (6, .int x6)] 14 []) (v : gV) (x2 : Int32) (x4 : Int64) (x6 : Int32) (x7 : Int32) (s0 : Int32) (h : fX5_drunkByLot_57 k14 v x2 x4 x6 x7 s0 = some (xr, v')) : G v [(0, .ref (r 0)), (2, .int x2), (3, .ref (r 2)), (4, .long x4), (6, .int x6), (7, .int x7)] 57 [.int s0] := by
  unfold fX5_drunkByLot_57 at h
  refine g_istore X (ls' := [(8, .int s0), (0, .ref (r 0)), (2, .int x2), (3, .ref (r 2)), (4, .long x4), (6, .int x6), (7, .int x7)]) dX5_drunkByLot_57 (by decide) rfl ?_
  refine g_aload_n X dX5_drunkByLot_59 rfl 1 rfl ?_
  refine g_aload_n X dX5_drunkByLot_60 rfl 3 rfl ?_
  refine g_iload X dX5_drunkByLot_61 6 rfl ?_
  refine g_aload_n X dX5_drunkByLot_63 rfl 1 rfl ?_
  refine g_get X fl5_73 hNC_0 (shC_0 _) rfl dX5_drunkByLot_64 ?_
  obtain ⟨y10, v11, hc12, h⟩ := gB_inv h
  refine g_callV X (st := []) (st' := []) kcX5_make kvX5_make kl5_154 (⟨rfl, rfl, by decide, by decide⟩) (mX5_make gRow_2 hc12) hNC_0 (shC_0 _) rfl rfl rfl (Nat.le_of_ble_eq_true rfl) rfl dX5_drunkByLot_67 ?_
  refine g_iload X dX5_drunkByLot_70 6 rfl ?_
  refine g_if_ne X 113 dX5_drunkByLot_72 (by decide) (fun c => ?_) (fun c => ?_)
  · replace h := gF c h
    refine g_sub X [1, 2, 3, 4, 5] (ls' := [(0, .ref (r 0)), (2, .int x2), (3, .ref (r 2)), (4, .long x4), (6, .int x6)]) rfl ?_
    exact bX5_drunkByLot_113 X K14 _ _ _ _  h
  · replace h := gTr c h
    refine g_lload X dX5_drunkByLot_75 4 rfl ?_
    refine g_ldc2 X kk5_261 dX5_drunkByLot_77 ?_
    refine g_lmul X dX5_drunkByLot_80 ?_
    refine g_ldc2 X kk5_263 dX5_drunkByLot_81 ?_
    refine g_lrem X dX5_drunkByLot_84 (by decide) ?_
    refine g_lstore X (ls' := [(4, .long ((x4 * 48271) - (x4 * 48271) / 2147483647 * 2147483647)), (8, .int s0), (0, .ref (r 0)), (2, .int x2), (3, .ref (r 2)), (6, .int x6), (7, .int x7)]) dX5_drunkByLot_85 (by decide) rfl ?_
    refine g_lload X dX5_drunkByLot_87 0 rfl ?_
    refine g_ldc2 X kk5_265 dX5_drunkByLot_89 ?_
    refine g_lrem X dX5_drunkByLot_92 (by decide) ?_
    refine g_iload X dX5_drunkByLot_93 1 rfl ?_
    refine g_i2l X dX5_drunkByLot_95 ?_
    refine g_lcmp X dX5_drunkByLot_96 ?_
    refine g_if_ge X 113 dX5_drunkByLot_97 (by decide) (fun c => ?_) (fun c => ?_)
    · replace h := gTr c h
      refine g_sub X [2, 3, 4, 0, 5] (ls' := [(0, .ref (r 0)), (2, .int x2), (3, .ref (r 2)), (4, .long ((x4 * 48271) - (x4 * 48271) / 2147483647 * 2147483647)), (6, .int x6)]) rfl ?_
      exact bX5_drunkByLot_113 X K14 _ _ _ _  h
    · replace h := gF c h
      refine g_aload_n X dX5_drunkByLot_100 rfl 4 rfl ?_
      refine g_iconst X 1 dX5_drunkByLot_101 (by decide) ?_
      refine g_ialdK X 1 hNC_2 (shC_2 _) rfl vin_1_7 dX5_drunkByLot_102 ?_
      refine g_if_le X 113 dX5_drunkByLot_103 (by decide) (fun c => ?_) (fun c => ?_)
      · replace h := gTr c h
        refine g_sub X [2, 3, 4, 0, 5] (ls' := [(0, .ref (r 0)), (2, .int x2), (3, .ref (r 2)), (4, .long ((x4 * 48271) - (x4 * 48271) / 2147483647 * 2147483647)), (6, .int x6)]) rfl ?_
        exact bX5_drunkByLot_113 X K14 _ _ _ _  h
      · replace h := gF c h
        refine g_aload_n X dX5_drunkByLot_106 rfl 4 rfl ?_
        refine g_iconst X 1 dX5_drunkByLot_107 (by decide) ?_
        refine g_dup2 X dX5_drunkByLot_108 rfl rfl ?_
        refine g_ialdK X 1 hNC_2 (shC_2 _) rfl vin_1_7 dX5_drunkByLot_109 ?_
        refine g_iconst X 1 dX5_drunkByLot_110 (by decide) ?_
        refine g_isub X dX5_drunkByLot_111 ?_
        refine g_iastK X 1 hNC_2 (shC_2) rfl vin_1_7 dX5_drunkByLot_112 ?_
        refine g_sub X [2, 3, 4, 0, 5] (ls' := [(0, .ref (r 0)), (2, .int x2), (3, .ref (r 2)), (4, .long ((x4 * 48271) - (x4 * 48271) / 2147483647 * 2147483647)), (6, .int x6)]) rfl ?_
        exact bX5_drunkByLot_113 X K14 _ _ _ _  h

set_option maxHeartbeats 4000000 in
set_option maxRecDepth 100000 in
theorem bX5_drunkByLot_14 {l : Launch} {D : va_G} {cA : Nat → ClassId} {r : Nat → Nat} {G : gG} {xr : Int32} {v' : gV} (X : XC l D cA r RX5 cX5_drunkByLot 9 (some .int) rmX5_drunkByLot (some (.int xr)) v' G) : ∀ (n : Nat) (v : gV) (x2 : Int32) (x4 : Int64) (x6 : Int32), fX5_drunkByLot_14 n v x2 x4 x6 = some (xr, v') → G v [(0, .ref (r 0)), (2, .int x2), (3, .ref (r 2)), (4, .long x4), (6, .int x6)] 14 [] := by
  intro n
  induction n with
  | zero => intro v x2 x4 x6 h; rw [fX5_drunkByLot_14] at h; cases h
  | succ n ih =>
    intro v x2 x4 x6 h
    rw [fX5_drunkByLot_14] at h
    refine g_iload X dX5_drunkByLot_14 4 rfl ?_
    refine g_iload_n X dX5_drunkByLot_16 rfl 1 rfl ?_
    refine g_icmp_ge X 119 dX5_drunkByLot_17 (by decide) (fun c => ?_) (fun c => ?_)
    · replace h := gTr c h
      refine g_aload_n X dX5_drunkByLot_119 rfl 2 rfl ?_
      refine g_iconst X 5 dX5_drunkByLot_120 (by decide) ?_
      refine g_ialdK X 5 hNC_2 (shC_2 _) rfl vin_5_7 dX5_drunkByLot_121 ?_
      exact g_iretR X h dX5_drunkByLot_122
    · replace h := gF c h
      refine g_aload_n X dX5_drunkByLot_20 rfl 0 rfl ?_
      refine g_aload_n X dX5_drunkByLot_21 rfl 2 rfl ?_
      refine g_iconst X (-1) dX5_drunkByLot_22 (by decide) ?_
      obtain ⟨y4, v5, hc6, h⟩ := gB_inv h
      refine g_callV X (st := []) (st' := [.int y4]) kcX5_pick kvX5_pick kl5_166 (⟨rfl, rfl, by decide, by decide⟩) (mX5_pick gRow_2 hc6) hNC_0 (shC_0 _) rfl rfl rfl (Nat.le_of_ble_eq_true rfl) rfl dX5_drunkByLot_23 ?_
      refine g_istore X (ls' := [(7, .int y4), (0, .ref (r 0)), (2, .int x2), (3, .ref (r 2)), (4, .long x4), (6, .int x6)]) dX5_drunkByLot_26 (by decide) rfl ?_
      refine g_iload X dX5_drunkByLot_28 0 rfl ?_
      refine g_iconst X (-1) dX5_drunkByLot_30 (by decide) ?_
      refine g_icmp_ne X 38 dX5_drunkByLot_31 (by decide) (fun c => ?_) (fun c => ?_)
      · replace h := gF c h
        refine g_iload X dX5_drunkByLot_38 0 rfl ?_
        refine g_if_ne X 56 dX5_drunkByLot_40 (by decide) (fun c => ?_) (fun c => ?_)
        · replace h := gF c h
          refine g_iconst X 0 dX5_drunkByLot_56 (by decide) ?_
          refine g_sub X [1, 2, 3, 4, 5, 0] (ls' := [(0, .ref (r 0)), (2, .int x2), (3, .ref (r 2)), (4, .long x4), (6, .int x6), (7, .int y4)]) rfl ?_
          exact bX5_drunkByLot_57 X ih _ _ _ _ _ _  h
        · replace h := gTr c h
          refine g_aload_n X dX5_drunkByLot_43 rfl 1 rfl ?_
          refine g_aload_n X dX5_drunkByLot_44 rfl 1 rfl ?_
          refine g_get X fl5_73 hNC_0 (shC_0 _) rfl dX5_drunkByLot_45 ?_
          refine g_iconst X 2 dX5_drunkByLot_48 (by decide) ?_
          refine g_aload_n X dX5_drunkByLot_49 rfl 3 rfl ?_
          obtain ⟨y7, v8, hc9, h⟩ := gB_inv h
          refine g_callV X (st := []) (st' := [.int y7]) kcX5_says kvX5_says kl5_93 (⟨rfl, rfl, by decide, by decide⟩) (mX5_says gRow_2 hc9) hNC_0 (shC_0 _) rfl rfl rfl (Nat.le_of_ble_eq_true rfl) rfl dX5_drunkByLot_50 ?_
          refine g_goto X 57 dX5_drunkByLot_53 (by decide) ?_
          refine g_sub X [1, 2, 3, 4, 5, 0] (ls' := [(0, .ref (r 0)), (2, .int x2), (3, .ref (r 2)), (4, .long x4), (6, .int x6), (7, .int y4)]) rfl ?_
          exact bX5_drunkByLot_57 X ih _ _ _ _ _ _  h
      · replace h := gTr c h
        refine g_aload_n X dX5_drunkByLot_34 rfl 3 rfl ?_
        refine g_iconst X 5 dX5_drunkByLot_35 (by decide) ?_
        refine g_ialdK X 5 hNC_2 (shC_2 _) rfl vin_5_7 dX5_drunkByLot_36 ?_
        exact g_iretR X h dX5_drunkByLot_37

set_option maxHeartbeats 4000000 in
set_option maxRecDepth 100000 in
theorem bX5_drunkByLot_0 {l : Launch} {D : va_G} {cA : Nat → ClassId} {r : Nat → Nat} {G : gG} {xr : Int32} {v' : gV} (X : XC l D cA r RX5 cX5_drunkByLot 9 (some .int) rmX5_drunkByLot (some (.int xr)) v' G) (v : gV) (x1 : Int32) (x2 : Int32) (h : fX5_drunkByLot v x1 x2 = some (xr, v')) : G v [(0, .ref (r 0)), (1, .int x1), (2, .int x2)] 0 [] := by
  unfold fX5_drunkByLot at h
  refine g_aload_n X dX5_drunkByLot_0 rfl 0 rfl ?_
  obtain ⟨y1, v2, hc3, h⟩ := gB_inv h
  refine g_callV X (st := []) (st' := [.ref (r 2)]) kcX5_startThought kvX5_startThought kl5_158 (⟨rfl, rfl, by decide, by decide⟩) (mX5_startThought hc3) hNC_0 (shC_0 _) rfl rfl rfl (Nat.le_of_ble_eq_true rfl) rfl dX5_drunkByLot_1 ?_
  refine g_astore_n X (ls' := [(3, .ref (r 2)), (0, .ref (r 0)), (1, .int x1), (2, .int x2)]) dX5_drunkByLot_4 rfl (by decide) rfl ?_
  refine g_iload_n X dX5_drunkByLot_5 rfl 2 rfl ?_
  refine g_i2l X dX5_drunkByLot_6 ?_
  refine g_lconst X 1 dX5_drunkByLot_7 (by decide) ?_
  refine g_ladd X dX5_drunkByLot_8 ?_
  refine g_lstore X (ls' := [(4, .long (x1.toInt64 + 1)), (3, .ref (r 2)), (0, .ref (r 0)), (1, .int x1), (2, .int x2)]) dX5_drunkByLot_9 (by decide) rfl ?_
  refine g_iconst X 0 dX5_drunkByLot_11 (by decide) ?_
  refine g_istore X (ls' := [(6, .int 0), (4, .long (x1.toInt64 + 1)), (3, .ref (r 2)), (0, .ref (r 0)), (1, .int x1), (2, .int x2)]) dX5_drunkByLot_12 (by decide) rfl ?_
  refine g_sub X [3, 5, 2, 1, 0] (ls' := [(0, .ref (r 0)), (2, .int x2), (3, .ref (r 2)), (4, .long (x1.toInt64 + 1)), (6, .int 0)]) rfl ?_
  exact bX5_drunkByLot_14 X  _ _ _ _ _  h

theorem mX5_drunkByLot {l : Launch} {D : va_G} {cA : Nat → ClassId} {r : Nat → Nat} {v : gV} {x1 : Int32} {x2 : Int32} {xr : Int32} {v' : gV} (h : fX5_drunkByLot v x1 x2 = some (xr, v')) : Ct l D (tysC cA) (shC cA r) 50 r (ZC r) yX5_drunkByLot cX5_drunkByLot 9 (some .int) rmX5_drunkByLot [.ref (r 0), .int x1, .int x2] v (some (.int xr)) v' := ct_of plX5 ZC_ok (Nat.le_of_ble_eq_true rfl) rfl (fun _ X => bX5_drunkByLot_0 X v x1 x2 h)

def rmX5_drawn : Room := { frames := 5, cells := 0, slots := 0, locals := 124 }

set_option maxHeartbeats 4000000 in
set_option maxRecDepth 100000 in
theorem bX5_drawn_0 {l : Launch} {D : va_G} {cA : Nat → ClassId} {r : Nat → Nat} {G : gG} {xr : Int32} {v' : gV} (X : XC l D cA r RX5 cX5_drawn 3 (some .int) rmX5_drawn (some (.int xr)) v' G) (v : gV) (x1 : Int32) (x2 : Int32) (h : fX5_drawn v x1 x2 = some (xr, v')) : G v [(0, .ref (r 0)), (1, .int x1), (2, .int x2)] 0 [] := by
  unfold fX5_drawn at h
  refine g_iload_n X dX5_drawn_0 rfl 1 rfl ?_
  refine g_if_lt X 21 dX5_drawn_1 (by decide) (fun c => ?_) (fun c => ?_)
  · replace h := gTr c h
    refine g_bipush X (-2) dX5_drawn_21 (by decide) ?_
    exact g_iretR X h dX5_drawn_23
  · replace h := gF c h
    refine g_iload_n X dX5_drawn_4 rfl 1 rfl ?_
    refine g_ldc X kk5_242 dX5_drawn_5 ?_
    refine g_icmp_gt X 21 dX5_drawn_7 (by decide) (fun c => ?_) (fun c => ?_)
    · replace h := gTr c h
      refine g_bipush X (-2) dX5_drawn_21 (by decide) ?_
      exact g_iretR X h dX5_drawn_23
    · replace h := gF c h
      refine g_iload_n X dX5_drawn_10 rfl 2 rfl ?_
      refine g_if_lt X 21 dX5_drawn_11 (by decide) (fun c => ?_) (fun c => ?_)
      · replace h := gTr c h
        refine g_bipush X (-2) dX5_drawn_21 (by decide) ?_
        exact g_iretR X h dX5_drawn_23
      · replace h := gF c h
        refine g_iload_n X dX5_drawn_14 rfl 2 rfl ?_
        refine g_sipush X 200 dX5_drawn_15 (by decide) ?_
        refine g_icmp_le X 24 dX5_drawn_18 (by decide) (fun c => ?_) (fun c => ?_)
        · replace h := gTr c h
          refine g_aload_n X dX5_drawn_24 rfl 0 rfl ?_
          refine g_iload_n X dX5_drawn_25 rfl 1 rfl ?_
          refine g_iload_n X dX5_drawn_26 rfl 2 rfl ?_
          obtain ⟨y1, v2, hc3, h⟩ := gB_inv h
          refine g_callV X (st := []) (st' := [.int y1]) kcX5_drunkByLot kvX5_drunkByLot kl5_243 (⟨rfl, rfl, by decide, by decide⟩) (mX5_drunkByLot hc3) hNC_0 (shC_0 _) rfl rfl rfl (Nat.le_of_ble_eq_true rfl) rfl dX5_drawn_27 ?_
          exact g_iretR X h dX5_drawn_30
        · replace h := gF c h
          refine g_bipush X (-2) dX5_drawn_21 (by decide) ?_
          exact g_iretR X h dX5_drawn_23

theorem mX5_drawn {l : Launch} {D : va_G} {cA : Nat → ClassId} {r : Nat → Nat} {v : gV} {x1 : Int32} {x2 : Int32} {xr : Int32} {v' : gV} (h : fX5_drawn v x1 x2 = some (xr, v')) : Ct l D (tysC cA) (shC cA r) 50 r (ZC r) yX5_drawn cX5_drawn 3 (some .int) rmX5_drawn [.ref (r 0), .int x1, .int x2] v (some (.int xr)) v' := ct_of plX5 ZC_ok (Nat.le_of_ble_eq_true rfl) rfl (fun _ X => bX5_drawn_0 X v x1 x2 h)

def rmX5_commonDivisor : Room := { frames := 0, cells := 0, slots := 0, locals := 0 }

set_option maxHeartbeats 4000000 in
set_option maxRecDepth 100000 in
theorem bX5_commonDivisor_7 {l : Launch} {D : va_G} {cA : Nat → ClassId} {r : Nat → Nat} {G : gG} {xr : Int32} {v' : gV} (X : XC l D cA r RX5 cX5_commonDivisor 6 (some .int) rmX5_commonDivisor (some (.int xr)) v' G) : ∀ (n : Nat) (v : gV) (x2 : Int32) (x3 : Int32) (x4 : Int32), fX5_commonDivisor_7 n v x2 x3 x4 = some (xr, v') → G v [(2, .int x2), (3, .int x3), (4, .int x4)] 7 [] := by
  intro n
  induction n with
  | zero => intro v x2 x3 x4 h; rw [fX5_commonDivisor_7] at h; cases h
  | succ n ih =>
    intro v x2 x3 x4 h
    rw [fX5_commonDivisor_7] at h
    refine g_iload X dX5_commonDivisor_7 2 rfl ?_
    refine g_bipush X 40 dX5_commonDivisor_9 (by decide) ?_
    refine g_icmp_ge X 34 dX5_commonDivisor_11 (by decide) (fun c => ?_) (fun c => ?_)
    · replace h := gTr c h
      refine g_iload_n X dX5_commonDivisor_34 rfl 0 rfl ?_
      exact g_iretR X h dX5_commonDivisor_35
    · replace h := gF c h
      refine g_iload_n X dX5_commonDivisor_14 rfl 1 rfl ?_
      refine g_if_eq X 34 dX5_commonDivisor_15 (by decide) (fun c => ?_) (fun c => ?_)
      · replace h := gTr c h
        refine g_iload_n X dX5_commonDivisor_34 rfl 0 rfl ?_
        exact g_iretR X h dX5_commonDivisor_35
      · replace h := gF c h
        refine g_iload_n X dX5_commonDivisor_18 rfl 0 rfl ?_
        refine g_iload_n X dX5_commonDivisor_19 rfl 1 rfl ?_
        obtain ⟨c, h⟩ := gGN h
        refine g_irem X dX5_commonDivisor_20 c ?_
        refine g_istore X (ls' := [(5, .int (x2 - x2 / x3 * x3)), (2, .int x2), (3, .int x3), (4, .int x4)]) dX5_commonDivisor_21 (by decide) rfl ?_
        refine g_iload_n X dX5_commonDivisor_23 rfl 2 rfl ?_
        refine g_istore_n X (ls' := [(2, .int x3), (5, .int (x2 - x2 / x3 * x3)), (3, .int x3), (4, .int x4)]) dX5_commonDivisor_24 rfl (by decide) rfl ?_
        refine g_iload X dX5_commonDivisor_25 1 rfl ?_
        refine g_istore_n X (ls' := [(3, .int (x2 - x2 / x3 * x3)), (2, .int x3), (5, .int (x2 - x2 / x3 * x3)), (4, .int x4)]) dX5_commonDivisor_27 rfl (by decide) rfl ?_
        refine g_iinc X (x4 + 1) [(4, .int (x4 + 1)), (3, .int (x2 - x2 / x3 * x3)), (2, .int x3), (5, .int (x2 - x2 / x3 * x3))] dX5_commonDivisor_28 3 rfl rfl (by decide) rfl ?_
        refine g_goto X 7 dX5_commonDivisor_31 (by decide) ?_
        refine g_sub X [2, 1, 0] (ls' := [(2, .int x3), (3, .int (x2 - x2 / x3 * x3)), (4, .int (x4 + 1))]) rfl ?_
        exact ih _ _ _ _  h

set_option maxHeartbeats 4000000 in
set_option maxRecDepth 100000 in
theorem bX5_commonDivisor_0 {l : Launch} {D : va_G} {cA : Nat → ClassId} {r : Nat → Nat} {G : gG} {xr : Int32} {v' : gV} (X : XC l D cA r RX5 cX5_commonDivisor 6 (some .int) rmX5_commonDivisor (some (.int xr)) v' G) (v : gV) (x0 : Int32) (x1 : Int32) (h : fX5_commonDivisor v x0 x1 = some (xr, v')) : G v [(0, .int x0), (1, .int x1)] 0 [] := by
  unfold fX5_commonDivisor at h
  refine g_iload_n X dX5_commonDivisor_0 rfl 0 rfl ?_
  refine g_istore_n X (ls' := [(2, .int x0), (0, .int x0), (1, .int x1)]) dX5_commonDivisor_1 rfl (by decide) rfl ?_
  refine g_iload_n X dX5_commonDivisor_2 rfl 2 rfl ?_
  refine g_istore_n X (ls' := [(3, .int x1), (2, .int x0), (0, .int x0), (1, .int x1)]) dX5_commonDivisor_3 rfl (by decide) rfl ?_
  refine g_iconst X 0 dX5_commonDivisor_4 (by decide) ?_
  refine g_istore X (ls' := [(4, .int 0), (3, .int x1), (2, .int x0), (0, .int x0), (1, .int x1)]) dX5_commonDivisor_5 (by decide) rfl ?_
  refine g_sub X [2, 1, 0] (ls' := [(2, .int x0), (3, .int x1), (4, .int 0)]) rfl ?_
  exact bX5_commonDivisor_7 X  _ _ _ _ _  h

theorem mX5_commonDivisor {l : Launch} {D : va_G} {cA : Nat → ClassId} {r : Nat → Nat} {v : gV} {x0 : Int32} {x1 : Int32} {xr : Int32} {v' : gV} (h : fX5_commonDivisor v x0 x1 = some (xr, v')) : Ct l D (tysC cA) (shC cA r) 50 r (ZC r) yX5_commonDivisor cX5_commonDivisor 6 (some .int) rmX5_commonDivisor [.int x0, .int x1] v (some (.int xr)) v' := ct_of plX5 ZC_ok (Nat.le_of_ble_eq_true rfl) rfl (fun _ X => bX5_commonDivisor_0 X v x0 x1 h)

def rmX5_mean : Room := { frames := 5, cells := 0, slots := 0, locals := 124 }

set_option maxHeartbeats 4000000 in
set_option maxRecDepth 100000 in
theorem bX5_mean_111 {l : Launch} {D : va_G} {cA : Nat → ClassId} {r : Nat → Nat} {G : gG} {xr : Int64} {v' : gV} (X : XC l D cA r RX5 cX5_mean 7 (some .long) rmX5_mean (some (.long xr)) v' G) (v : gV) (x6 : Int32) (s0 : Int32) (h : fX5_mean_111 v x6 s0 = some (xr, v')) : G v [(6, .int x6)] 111 [.int s0] := by
  unfold fX5_mean_111 at h
  refine g_iload X dX5_mean_111 0 rfl ?_
  obtain ⟨c, h⟩ := gGN h
  refine g_idiv X dX5_mean_113 c ?_
  refine g_i2l X dX5_mean_114 ?_
  exact g_lretR X h dX5_mean_115

set_option maxHeartbeats 4000000 in
set_option maxRecDepth 100000 in
theorem bX5_mean_57 {l : Launch} {D : va_G} {cA : Nat → ClassId} {r : Nat → Nat} {G : gG} {xr : Int64} {v' : gV} (X : XC l D cA r RX5 cX5_mean 7 (some .long) rmX5_mean (some (.long xr)) v' G) : ∀ (n : Nat) (v : gV) (x1 : Int32) (x2 : Int32) (x3 : Int32) (x4 : Int32) (x5 : Int32) (x6 : Int32), fX5_mean_57 n v x1 x2 x3 x4 x5 x6 = some (xr, v') → G v [(0, .ref (r 0)), (1, .int x1), (2, .int x2), (3, .int x3), (4, .int x4), (5, .int x5), (6, .int x6)] 57 [] := by
  intro n
  induction n with
  | zero => intro v x1 x2 x3 x4 x5 x6 h; rw [fX5_mean_57] at h; cases h
  | succ n ih =>
    intro v x1 x2 x3 x4 x5 x6 h
    rw [fX5_mean_57] at h
    refine g_iload X dX5_mean_57 6 rfl ?_
    refine g_iload_n X dX5_mean_59 rfl 2 rfl ?_
    refine g_icmp_ge X 83 dX5_mean_60 (by decide) (fun c => ?_) (fun c => ?_)
    · replace h := gTr c h
      refine g_iload X dX5_mean_83 5 rfl ?_
      refine g_iload_n X dX5_mean_85 rfl 2 rfl ?_
      obtain ⟨y1, v2, hc3, h⟩ := gB_inv h
      refine g_callS X (st := []) (st' := [.int y1]) kcX5_commonDivisor ktX5_commonDivisor kl5_246 (⟨rfl, rfl, by decide, by decide⟩) (mX5_commonDivisor hc3) rfl rfl (Nat.le_of_ble_eq_true rfl) rfl dX5_mean_86 ?_
      refine g_istore X (ls' := [(6, .int y1), (0, .ref (r 0)), (1, .int x1), (2, .int x2), (3, .int x3), (4, .int x4), (5, .int x5)]) dX5_mean_89 (by decide) rfl ?_
      refine g_iload X dX5_mean_91 0 rfl ?_
      refine g_if_ne X 100 dX5_mean_93 (by decide) (fun c => ?_) (fun c => ?_)
      · replace h := gF c h
        refine g_iload X dX5_mean_100 5 rfl ?_
        refine g_if_ne X 110 dX5_mean_102 (by decide) (fun c => ?_) (fun c => ?_)
        · replace h := gF c h
          refine g_iload_n X dX5_mean_110 rfl 3 rfl ?_
          refine g_sub X [0] (ls' := [(6, .int y1)]) rfl ?_
          exact bX5_mean_111 X  _ _ _  h
        · replace h := gTr c h
          refine g_iload X dX5_mean_105 6 rfl ?_
          refine g_goto X 111 dX5_mean_107 (by decide) ?_
          refine g_sub X [0] (ls' := [(6, .int y1)]) rfl ?_
          exact bX5_mean_111 X  _ _ _  h
      · replace h := gTr c h
        refine g_ldc2 X kk5_208 dX5_mean_96 ?_
        exact g_lretR X h dX5_mean_99
    · replace h := gF c h
      refine g_iload X dX5_mean_63 5 rfl ?_
      refine g_aload_n X dX5_mean_65 rfl 0 rfl ?_
      refine g_iload_n X dX5_mean_66 rfl 1 rfl ?_
      refine g_iload X dX5_mean_67 6 rfl ?_
      refine g_iadd X dX5_mean_69 ?_
      refine g_iload_n X dX5_mean_70 rfl 3 rfl ?_
      obtain ⟨y4, v5, hc6, h⟩ := gB_inv h
      refine g_callV X (st := [.int x5]) (st' := [.int y4, .int x5]) kcX5_drunkByLot kvX5_drunkByLot kl5_243 (⟨rfl, rfl, by decide, by decide⟩) (mX5_drunkByLot hc6) hNC_0 (shC_0 _) rfl rfl rfl (Nat.le_of_ble_eq_true rfl) rfl dX5_mean_71 ?_
      refine g_iadd X dX5_mean_74 ?_
      refine g_istore X (ls' := [(5, .int (x5 + y4)), (0, .ref (r 0)), (1, .int x1), (2, .int x2), (3, .int x3), (4, .int x4), (6, .int x6)]) dX5_mean_75 (by decide) rfl ?_
      refine g_iinc X (x6 + 1) [(6, .int (x6 + 1)), (5, .int (x5 + y4)), (0, .ref (r 0)), (1, .int x1), (2, .int x2), (3, .int x3), (4, .int x4)] dX5_mean_77 6 rfl rfl (by decide) rfl ?_
      refine g_goto X 57 dX5_mean_80 (by decide) ?_
      refine g_sub X [2, 3, 4, 5, 6, 1, 0] (ls' := [(0, .ref (r 0)), (1, .int x1), (2, .int x2), (3, .int x3), (4, .int x4), (5, .int (x5 + y4)), (6, .int (x6 + 1))]) rfl ?_
      exact ih _ _ _ _ _ _ _  h

set_option maxHeartbeats 4000000 in
set_option maxRecDepth 100000 in
theorem bX5_mean_0 {l : Launch} {D : va_G} {cA : Nat → ClassId} {r : Nat → Nat} {G : gG} {xr : Int64} {v' : gV} (X : XC l D cA r RX5 cX5_mean 7 (some .long) rmX5_mean (some (.long xr)) v' G) (v : gV) (x1 : Int32) (x2 : Int32) (x3 : Int32) (x4 : Int32) (h : fX5_mean v x1 x2 x3 x4 = some (xr, v')) : G v [(0, .ref (r 0)), (1, .int x1), (2, .int x2), (3, .int x3), (4, .int x4)] 0 [] := by
  unfold fX5_mean at h
  refine g_iload_n X dX5_mean_0 rfl 1 rfl ?_
  refine g_if_lt X 21 dX5_mean_1 (by decide) (fun c => ?_) (fun c => ?_)
  · replace h := gTr c h
    refine g_ldc2 X kk5_208 dX5_mean_21 ?_
    exact g_lretR X h dX5_mean_24
  · replace h := gF c h
    refine g_iload_n X dX5_mean_4 rfl 1 rfl ?_
    refine g_ldc X kk5_242 dX5_mean_5 ?_
    refine g_icmp_gt X 21 dX5_mean_7 (by decide) (fun c => ?_) (fun c => ?_)
    · replace h := gTr c h
      refine g_ldc2 X kk5_208 dX5_mean_21 ?_
      exact g_lretR X h dX5_mean_24
    · replace h := gF c h
      refine g_iload_n X dX5_mean_10 rfl 2 rfl ?_
      refine g_iconst X 1 dX5_mean_11 (by decide) ?_
      refine g_icmp_lt X 21 dX5_mean_12 (by decide) (fun c => ?_) (fun c => ?_)
      · replace h := gTr c h
        refine g_ldc2 X kk5_208 dX5_mean_21 ?_
        exact g_lretR X h dX5_mean_24
      · replace h := gF c h
        refine g_iload_n X dX5_mean_15 rfl 2 rfl ?_
        refine g_bipush X 30 dX5_mean_16 (by decide) ?_
        refine g_icmp_le X 25 dX5_mean_18 (by decide) (fun c => ?_) (fun c => ?_)
        · replace h := gTr c h
          refine g_iload_n X dX5_mean_25 rfl 3 rfl ?_
          refine g_if_lt X 47 dX5_mean_26 (by decide) (fun c => ?_) (fun c => ?_)
          · replace h := gTr c h
            refine g_ldc2 X kk5_208 dX5_mean_47 ?_
            exact g_lretR X h dX5_mean_50
          · replace h := gF c h
            refine g_iload_n X dX5_mean_29 rfl 3 rfl ?_
            refine g_sipush X 200 dX5_mean_30 (by decide) ?_
            refine g_icmp_gt X 47 dX5_mean_33 (by decide) (fun c => ?_) (fun c => ?_)
            · replace h := gTr c h
              refine g_ldc2 X kk5_208 dX5_mean_47 ?_
              exact g_lretR X h dX5_mean_50
            · replace h := gF c h
              refine g_iload X dX5_mean_36 4 rfl ?_
              refine g_if_lt X 47 dX5_mean_38 (by decide) (fun c => ?_) (fun c => ?_)
              · replace h := gTr c h
                refine g_ldc2 X kk5_208 dX5_mean_47 ?_
                exact g_lretR X h dX5_mean_50
              · replace h := gF c h
                refine g_iload X dX5_mean_41 4 rfl ?_
                refine g_iconst X 1 dX5_mean_43 (by decide) ?_
                refine g_icmp_le X 51 dX5_mean_44 (by decide) (fun c => ?_) (fun c => ?_)
                · replace h := gTr c h
                  refine g_iconst X 0 dX5_mean_51 (by decide) ?_
                  refine g_istore X (ls' := [(5, .int 0), (0, .ref (r 0)), (1, .int x1), (2, .int x2), (3, .int x3), (4, .int x4)]) dX5_mean_52 (by decide) rfl ?_
                  refine g_iconst X 0 dX5_mean_54 (by decide) ?_
                  refine g_istore X (ls' := [(6, .int 0), (5, .int 0), (0, .ref (r 0)), (1, .int x1), (2, .int x2), (3, .int x3), (4, .int x4)]) dX5_mean_55 (by decide) rfl ?_
                  refine g_sub X [2, 3, 4, 5, 6, 1, 0] (ls' := [(0, .ref (r 0)), (1, .int x1), (2, .int x2), (3, .int x3), (4, .int x4), (5, .int 0), (6, .int 0)]) rfl ?_
                  exact bX5_mean_57 X  _ _ _ _ _ _ _ _  h
                · replace h := gF c h
                  refine g_ldc2 X kk5_208 dX5_mean_47 ?_
                  exact g_lretR X h dX5_mean_50
        · replace h := gF c h
          refine g_ldc2 X kk5_208 dX5_mean_21 ?_
          exact g_lretR X h dX5_mean_24

theorem mX5_mean {l : Launch} {D : va_G} {cA : Nat → ClassId} {r : Nat → Nat} {v : gV} {x1 : Int32} {x2 : Int32} {x3 : Int32} {x4 : Int32} {xr : Int64} {v' : gV} (h : fX5_mean v x1 x2 x3 x4 = some (xr, v')) : Ct l D (tysC cA) (shC cA r) 50 r (ZC r) yX5_mean cX5_mean 7 (some .long) rmX5_mean [.ref (r 0), .int x1, .int x2, .int x3, .int x4] v (some (.long xr)) v' := ct_of plX5 ZC_ok (Nat.le_of_ble_eq_true rfl) rfl (fun _ X => bX5_mean_0 X v x1 x2 x3 x4 h)

def rmX5_image : Room := { frames := 1, cells := 0, slots := 0, locals := 40 }

set_option maxHeartbeats 4000000 in
set_option maxRecDepth 100000 in
theorem bX5_image_0 {l : Launch} {D : va_G} {cA : Nat → ClassId} {r : Nat → Nat} {G : gG} {xr : Int32} {v' : gV} (X : XC l D cA r RX5 cX5_image 1 (some .int) rmX5_image (some (.int xr)) v' G) (v : gV)  (h : fX5_image v  = some (xr, v')) : G v [(0, .ref (r 0))] 0 [] := by
  unfold fX5_image at h
  refine g_aload_n X dX5_image_0 rfl 0 rfl ?_
  refine g_get X fl5_9 hNC_0 (shC_0 _) rfl dX5_image_1 ?_
  refine g_iconst X 0 dX5_image_4 (by decide) ?_
  refine g_aload_n X dX5_image_5 rfl 0 rfl ?_
  refine g_get X fl5_51 hNC_0 (shC_0 _) rfl dX5_image_6 ?_
  refine g_get X fl5_249 hNC_8 (shC_8 _) rfl dX5_image_9 ?_
  refine g_iconst X 0 dX5_image_12 (by decide) ?_
  refine g_bipush X 7 dX5_image_13 (by decide) ?_
  refine g_copyK X kc_0_0_7_7_7 km5_176 kcopy.1 kcopy.2.1 kcopy.2.2 hNC_1 hNC_17 (shC_1 _) (shC_17) rfl rfl (by decide) (by decide) (Nat.le_of_ble_eq_true rfl) dX5_image_15 ?_
  refine g_aload_n X dX5_image_18 rfl 0 rfl ?_
  refine g_get X fl5_24 hNC_0 (shC_0 _) rfl dX5_image_19 ?_
  refine g_get X fl5_126 hNC_4 (shC_4 _) rfl dX5_image_22 ?_
  refine g_iconst X 0 dX5_image_25 (by decide) ?_
  refine g_aload_n X dX5_image_26 rfl 0 rfl ?_
  refine g_get X fl5_51 hNC_0 (shC_0 _) rfl dX5_image_27 ?_
  refine g_get X fl5_252 hNC_8 (shC_8 _) rfl dX5_image_30 ?_
  refine g_iconst X 0 dX5_image_33 (by decide) ?_
  refine g_iconst X 5 dX5_image_34 (by decide) ?_
  refine g_copyK X kc_0_0_5_5_5 km5_176 kcopy.1 kcopy.2.1 kcopy.2.2 hNC_9 hNC_18 (shC_9 _) (shC_18) rfl rfl (by decide) (by decide) (Nat.le_of_ble_eq_true rfl) dX5_image_35 ?_
  refine g_aload_n X dX5_image_38 rfl 0 rfl ?_
  refine g_get X fl5_24 hNC_0 (shC_0 _) rfl dX5_image_39 ?_
  refine g_get X fl5_129 hNC_4 (shC_4 _) rfl dX5_image_42 ?_
  refine g_iconst X 0 dX5_image_45 (by decide) ?_
  refine g_aload_n X dX5_image_46 rfl 0 rfl ?_
  refine g_get X fl5_51 hNC_0 (shC_0 _) rfl dX5_image_47 ?_
  refine g_get X fl5_253 hNC_8 (shC_8 _) rfl dX5_image_50 ?_
  refine g_iconst X 0 dX5_image_53 (by decide) ?_
  refine g_iconst X 5 dX5_image_54 (by decide) ?_
  refine g_copyK X kc_0_0_5_5_5 km5_176 kcopy.1 kcopy.2.1 kcopy.2.2 hNC_12 hNC_19 (shC_12 _) (shC_19) rfl rfl (by decide) (by decide) (Nat.le_of_ble_eq_true rfl) dX5_image_55 ?_
  refine g_aload_n X dX5_image_58 rfl 0 rfl ?_
  refine g_get X fl5_51 hNC_0 (shC_0 _) rfl dX5_image_59 ?_
  refine g_aload_n X dX5_image_62 rfl 0 rfl ?_
  refine g_get X fl5_24 hNC_0 (shC_0 _) rfl dX5_image_63 ?_
  refine g_get X fl5_70 hNC_4 (shC_4 _) rfl dX5_image_66 ?_
  refine g_put X (fsC0 r) fp5_254 hNC_8 (shC_8) (fun _ => rfl) (Nat.le_of_ble_eq_true rfl) dX5_image_69 ?_
  refine g_aload_n X dX5_image_72 rfl 0 rfl ?_
  refine g_get X fl5_51 hNC_0 (shC_0 _) rfl dX5_image_73 ?_
  refine g_aload_n X dX5_image_76 rfl 0 rfl ?_
  refine g_get X fl5_73 hNC_0 (shC_0 _) rfl dX5_image_77 ?_
  refine g_put X (fsC0 r) fp5_256 hNC_8 (shC_8) (fun _ => rfl) (Nat.le_of_ble_eq_true rfl) dX5_image_80 ?_
  refine g_aload_n X dX5_image_83 rfl 0 rfl ?_
  refine g_get X fl5_51 hNC_0 (shC_0 _) rfl dX5_image_84 ?_
  refine g_iconst X 1 dX5_image_87 (by decide) ?_
  refine g_putZ X (fsC0 r) fp5_257 hNC_8 (shC_8) (fun _ => rfl) (Nat.le_of_ble_eq_true rfl) (Or.inr rfl) dX5_image_88 ?_
  refine g_aload_n X dX5_image_91 rfl 0 rfl ?_
  refine g_get X fl5_24 hNC_0 (shC_0 _) rfl dX5_image_92 ?_
  refine g_get X fl5_70 hNC_4 (shC_4 _) rfl dX5_image_95 ?_
  exact g_iretR X h dX5_image_98

theorem mX5_image {l : Launch} {D : va_G} {cA : Nat → ClassId} {r : Nat → Nat} {v : gV}  {xr : Int32} {v' : gV} (h : fX5_image v  = some (xr, v')) : Ct l D (tysC cA) (shC cA r) 50 r (ZC r) yX5_image cX5_image 1 (some .int) rmX5_image [.ref (r 0)] v (some (.int xr)) v' := ct_of plX5 ZC_ok (Nat.le_of_ble_eq_true rfl) rfl (fun _ X => bX5_image_0 X v  h)

def rmX5_back : Room := { frames := 1, cells := 0, slots := 0, locals := 40 }

set_option maxHeartbeats 4000000 in
set_option maxRecDepth 100000 in
theorem bX5_back_0 {l : Launch} {D : va_G} {cA : Nat → ClassId} {r : Nat → Nat} {G : gG} {xr : Int32} {v' : gV} (X : XC l D cA r RX5 cX5_back 1 (some .int) rmX5_back (some (.int xr)) v' G) (v : gV)  (h : fX5_back v  = some (xr, v')) : G v [(0, .ref (r 0))] 0 [] := by
  unfold fX5_back at h
  refine g_aload_n X dX5_back_0 rfl 0 rfl ?_
  refine g_get X fl5_51 hNC_0 (shC_0 _) rfl dX5_back_1 ?_
  refine g_get X fl5_257 hNC_8 (shC_8 _) rfl dX5_back_4 ?_
  refine g_if_ne X 13 dX5_back_7 (by decide) (fun c => ?_) (fun c => ?_)
  · replace h := gF c h
    refine g_aload_n X dX5_back_13 rfl 0 rfl ?_
    refine g_get X fl5_51 hNC_0 (shC_0 _) rfl dX5_back_14 ?_
    refine g_get X fl5_249 hNC_8 (shC_8 _) rfl dX5_back_17 ?_
    refine g_iconst X 0 dX5_back_20 (by decide) ?_
    refine g_aload_n X dX5_back_21 rfl 0 rfl ?_
    refine g_get X fl5_9 hNC_0 (shC_0 _) rfl dX5_back_22 ?_
    refine g_iconst X 0 dX5_back_25 (by decide) ?_
    refine g_bipush X 7 dX5_back_26 (by decide) ?_
    refine g_copyK X kc_0_0_7_7_7 km5_176 kcopy.1 kcopy.2.1 kcopy.2.2 hNC_17 hNC_1 (shC_17 _) (shC_1) rfl rfl (by decide) (by decide) (Nat.le_of_ble_eq_true rfl) dX5_back_28 ?_
    refine g_aload_n X dX5_back_31 rfl 0 rfl ?_
    refine g_get X fl5_51 hNC_0 (shC_0 _) rfl dX5_back_32 ?_
    refine g_get X fl5_252 hNC_8 (shC_8 _) rfl dX5_back_35 ?_
    refine g_iconst X 0 dX5_back_38 (by decide) ?_
    refine g_aload_n X dX5_back_39 rfl 0 rfl ?_
    refine g_get X fl5_24 hNC_0 (shC_0 _) rfl dX5_back_40 ?_
    refine g_get X fl5_126 hNC_4 (shC_4 _) rfl dX5_back_43 ?_
    refine g_iconst X 0 dX5_back_46 (by decide) ?_
    refine g_iconst X 5 dX5_back_47 (by decide) ?_
    refine g_copyK X kc_0_0_5_5_5 km5_176 kcopy.1 kcopy.2.1 kcopy.2.2 hNC_18 hNC_9 (shC_18 _) (shC_9) rfl rfl (by decide) (by decide) (Nat.le_of_ble_eq_true rfl) dX5_back_48 ?_
    refine g_aload_n X dX5_back_51 rfl 0 rfl ?_
    refine g_get X fl5_51 hNC_0 (shC_0 _) rfl dX5_back_52 ?_
    refine g_get X fl5_253 hNC_8 (shC_8 _) rfl dX5_back_55 ?_
    refine g_iconst X 0 dX5_back_58 (by decide) ?_
    refine g_aload_n X dX5_back_59 rfl 0 rfl ?_
    refine g_get X fl5_24 hNC_0 (shC_0 _) rfl dX5_back_60 ?_
    refine g_get X fl5_129 hNC_4 (shC_4 _) rfl dX5_back_63 ?_
    refine g_iconst X 0 dX5_back_66 (by decide) ?_
    refine g_iconst X 5 dX5_back_67 (by decide) ?_
    refine g_copyK X kc_0_0_5_5_5 km5_176 kcopy.1 kcopy.2.1 kcopy.2.2 hNC_19 hNC_12 (shC_19 _) (shC_12) rfl rfl (by decide) (by decide) (Nat.le_of_ble_eq_true rfl) dX5_back_68 ?_
    refine g_aload_n X dX5_back_71 rfl 0 rfl ?_
    refine g_get X fl5_24 hNC_0 (shC_0 _) rfl dX5_back_72 ?_
    refine g_aload_n X dX5_back_75 rfl 0 rfl ?_
    refine g_get X fl5_51 hNC_0 (shC_0 _) rfl dX5_back_76 ?_
    refine g_get X fl5_254 hNC_8 (shC_8 _) rfl dX5_back_79 ?_
    refine g_put X (fsC1 r) fp5_70 hNC_4 (shC_4) (fun _ => rfl) (Nat.le_of_ble_eq_true rfl) dX5_back_82 ?_
    refine g_aload_n X dX5_back_85 rfl 0 rfl ?_
    refine g_aload_n X dX5_back_86 rfl 0 rfl ?_
    refine g_get X fl5_51 hNC_0 (shC_0 _) rfl dX5_back_87 ?_
    refine g_get X fl5_256 hNC_8 (shC_8 _) rfl dX5_back_90 ?_
    refine g_put X (fsC5 r) fp5_73 hNC_0 (shC_0) (fun _ => rfl) (Nat.le_of_ble_eq_true rfl) dX5_back_93 ?_
    refine g_aload_n X dX5_back_96 rfl 0 rfl ?_
    refine g_get X fl5_24 hNC_0 (shC_0 _) rfl dX5_back_97 ?_
    refine g_get X fl5_70 hNC_4 (shC_4 _) rfl dX5_back_100 ?_
    exact g_iretR X h dX5_back_103
  · replace h := gTr c h
    refine g_bipush X (-3) dX5_back_10 (by decide) ?_
    exact g_iretR X h dX5_back_12

theorem mX5_back {l : Launch} {D : va_G} {cA : Nat → ClassId} {r : Nat → Nat} {v : gV}  {xr : Int32} {v' : gV} (h : fX5_back v  = some (xr, v')) : Ct l D (tysC cA) (shC cA r) 50 r (ZC r) yX5_back cX5_back 1 (some .int) rmX5_back [.ref (r 0)] v (some (.int xr)) v' := ct_of plX5 ZC_ok (Nat.le_of_ble_eq_true rfl) rfl (fun _ X => bX5_back_0 X v  h)

def rmX5_sheet : Room := { frames := 2, cells := 0, slots := 0, locals := 44 }

set_option maxHeartbeats 4000000 in
set_option maxRecDepth 100000 in
theorem bX5_sheet_0 {l : Launch} {D : va_G} {cA : Nat → ClassId} {r : Nat → Nat} {G : gG} {xr : Int32} {v' : gV} (X : XC l D cA r RX5 cX5_sheet 4 (some .int) rmX5_sheet (some (.int xr)) v' G) (v : gV) (x1 : Int32) (x2 : Int32) (x3 : Int32) (h : fX5_sheet v x1 x2 x3 = some (xr, v')) : G v [(0, .ref (r 0)), (1, .int x1), (2, .int x2), (3, .int x3)] 0 [] := by
  unfold fX5_sheet at h
  refine g_iload_n X dX5_sheet_0 rfl 1 rfl ?_
  obtain ⟨y1, v2, hc3, h⟩ := gB_inv h
  refine g_callS X (st := []) (st' := [.int y1]) kcX2_isSheet ktX2_isSheet kl5_224 (⟨rfl, rfl, by decide, by decide⟩) (mX2_isSheet hc3) rfl rfl (Nat.le_of_ble_eq_true rfl) rfl dX5_sheet_1 ?_
  refine g_if_ne X 10 dX5_sheet_4 (by decide) (fun c => ?_) (fun c => ?_)
  · replace h := gF c h
    refine g_iload_n X dX5_sheet_10 rfl 2 rfl ?_
    refine g_iconst X (-1) dX5_sheet_11 (by decide) ?_
    refine g_icmp_ne X 25 dX5_sheet_12 (by decide) (fun c => ?_) (fun c => ?_)
    · replace h := gF c h
      refine g_iload_n X dX5_sheet_25 rfl 2 rfl ?_
      obtain ⟨y4, v5, hc6, h⟩ := gB_inv h
      refine g_callS X (st := []) (st' := [.int y4]) kcX2_isSort ktX2_isSort kl5_270 (⟨rfl, rfl, by decide, by decide⟩) (mX2_isSort hc6) rfl rfl (Nat.le_of_ble_eq_true rfl) rfl dX5_sheet_26 ?_
      refine g_if_eq X 38 dX5_sheet_29 (by decide) (fun c => ?_) (fun c => ?_)
      · replace h := gTr c h
        refine g_bipush X (-2) dX5_sheet_38 (by decide) ?_
        exact g_iretR X h dX5_sheet_40
      · replace h := gF c h
        refine g_iload_n X dX5_sheet_32 rfl 3 rfl ?_
        refine g_bipush X 40 dX5_sheet_33 (by decide) ?_
        refine g_icmp_le X 41 dX5_sheet_35 (by decide) (fun c => ?_) (fun c => ?_)
        · replace h := gTr c h
          refine g_iload_n X dX5_sheet_41 rfl 3 rfl ?_
          refine g_if_ge X 48 dX5_sheet_42 (by decide) (fun c => ?_) (fun c => ?_)
          · replace h := gTr c h
            refine g_aload_n X dX5_sheet_48 rfl 0 rfl ?_
            refine g_get X fl5_44 hNC_0 (shC_0 _) rfl dX5_sheet_49 ?_
            refine g_iload_n X dX5_sheet_52 rfl 1 rfl ?_
            refine g_iload_n X dX5_sheet_53 rfl 2 rfl ?_
            refine g_iload_n X dX5_sheet_54 rfl 3 rfl ?_
            obtain ⟨y7, v8, hc9, h⟩ := gB_inv h
            refine g_callV X (st := []) (st' := []) kcX2_become kvX2_become kl5_227 (⟨rfl, rfl, by decide, by decide⟩) (mX2_become hc9) hNC_7 (shC_7 _) rfl rfl rfl (Nat.le_of_ble_eq_true rfl) rfl dX5_sheet_55 ?_
            refine g_iconst X 1 dX5_sheet_58 (by decide) ?_
            exact g_iretR X h dX5_sheet_59
          · replace h := gF c h
            refine g_bipush X (-14) dX5_sheet_45 (by decide) ?_
            exact g_iretR X h dX5_sheet_47
        · replace h := gF c h
          refine g_bipush X (-2) dX5_sheet_38 (by decide) ?_
          exact g_iretR X h dX5_sheet_40
    · replace h := gTr c h
      refine g_aload_n X dX5_sheet_15 rfl 0 rfl ?_
      refine g_get X fl5_44 hNC_0 (shC_0 _) rfl dX5_sheet_16 ?_
      refine g_iload_n X dX5_sheet_19 rfl 1 rfl ?_
      obtain ⟨y10, v11, hc12, h⟩ := gB_inv h
      refine g_callV X (st := []) (st' := []) kcX2_lose kvX2_lose kl5_267 (⟨rfl, rfl, by decide, by decide⟩) (mX2_lose hc12) hNC_7 (shC_7 _) rfl rfl rfl (Nat.le_of_ble_eq_true rfl) rfl dX5_sheet_20 ?_
      refine g_iconst X 1 dX5_sheet_23 (by decide) ?_
      exact g_iretR X h dX5_sheet_24
  · replace h := gTr c h
    refine g_bipush X (-2) dX5_sheet_7 (by decide) ?_
    exact g_iretR X h dX5_sheet_9

theorem mX5_sheet {l : Launch} {D : va_G} {cA : Nat → ClassId} {r : Nat → Nat} {v : gV} {x1 : Int32} {x2 : Int32} {x3 : Int32} {xr : Int32} {v' : gV} (h : fX5_sheet v x1 x2 x3 = some (xr, v')) : Ct l D (tysC cA) (shC cA r) 50 r (ZC r) yX5_sheet cX5_sheet 4 (some .int) rmX5_sheet [.ref (r 0), .int x1, .int x2, .int x3] v (some (.int xr)) v' := ct_of plX5 ZC_ok (Nat.le_of_ble_eq_true rfl) rfl (fun _ X => bX5_sheet_0 X v x1 x2 x3 h)

def rmX5_cell : Room := { frames := 2, cells := 0, slots := 0, locals := 43 }

set_option maxHeartbeats 4000000 in
set_option maxRecDepth 100000 in
theorem bX5_cell_0 {l : Launch} {D : va_G} {cA : Nat → ClassId} {r : Nat → Nat} {G : gG} {xr : Int32} {v' : gV} (X : XC l D cA r RX5 cX5_cell 5 (some .int) rmX5_cell (some (.int xr)) v' G) (v : gV) (x1 : Int32) (x2 : Int32) (x3 : Int32) (h : fX5_cell v x1 x2 x3 = some (xr, v')) : G v [(0, .ref (r 0)), (1, .int x1), (2, .int x2), (3, .int x3)] 0 [] := by
  unfold fX5_cell at h
  refine g_aload_n X dX5_cell_0 rfl 0 rfl ?_
  refine g_get X fl5_44 hNC_0 (shC_0 _) rfl dX5_cell_1 ?_
  refine g_iload_n X dX5_cell_4 rfl 1 rfl ?_
  obtain ⟨y1, v2, hc3, h⟩ := gB_inv h
  refine g_callV X (st := []) (st' := [.int y1]) kcX2_refusal kvX2_refusal kl5_218 (⟨rfl, rfl, by decide, by decide⟩) (mX2_refusal hc3) hNC_7 (shC_7 _) rfl rfl rfl (Nat.le_of_ble_eq_true rfl) rfl dX5_cell_5 ?_
  refine g_istore X (ls' := [(4, .int y1), (0, .ref (r 0)), (1, .int x1), (2, .int x2), (3, .int x3)]) dX5_cell_8 (by decide) rfl ?_
  refine g_iload X dX5_cell_10 0 rfl ?_
  refine g_if_eq X 18 dX5_cell_12 (by decide) (fun c => ?_) (fun c => ?_)
  · replace h := gTr c h
    refine g_iload_n X dX5_cell_18 rfl 3 rfl ?_
    refine g_if_lt X 34 dX5_cell_19 (by decide) (fun c => ?_) (fun c => ?_)
    · replace h := gTr c h
      refine g_bipush X (-12) dX5_cell_34 (by decide) ?_
      exact g_iretR X h dX5_cell_36
    · replace h := gF c h
      refine g_iload_n X dX5_cell_22 rfl 3 rfl ?_
      refine g_aload_n X dX5_cell_23 rfl 1 rfl ?_
      refine g_get X fl5_44 hNC_0 (shC_0 _) rfl dX5_cell_24 ?_
      refine g_iload_n X dX5_cell_27 rfl 2 rfl ?_
      obtain ⟨y4, v5, hc6, h⟩ := gB_inv h
      refine g_callV X (st := [.int x2]) (st' := [.int y4, .int x2]) kcX2_sizeOf kvX2_sizeOf kl5_236 (⟨rfl, rfl, by decide, by decide⟩) (mX2_sizeOf hc6) hNC_7 (shC_7 _) rfl rfl rfl (Nat.le_of_ble_eq_true rfl) rfl dX5_cell_28 ?_
      refine g_icmp_lt X 37 dX5_cell_31 (by decide) (fun c => ?_) (fun c => ?_)
      · replace h := gTr c h
        refine g_aload_n X dX5_cell_37 rfl 1 rfl ?_
        refine g_get X fl5_44 hNC_0 (shC_0 _) rfl dX5_cell_38 ?_
        refine g_iload_n X dX5_cell_41 rfl 2 rfl ?_
        refine g_iload_n X dX5_cell_42 rfl 3 rfl ?_
        refine g_iload_n X dX5_cell_43 rfl 4 rfl ?_
        obtain ⟨y7, v8, hc9, h⟩ := gB_inv h
        refine g_callV X (st := []) (st' := []) kcX2_put kvX2_put kl5_234 (⟨rfl, rfl, by decide, by decide⟩) (mX2_put hc9) hNC_7 (shC_7 _) rfl rfl rfl (Nat.le_of_ble_eq_true rfl) rfl dX5_cell_44 ?_
        refine g_iconst X 1 dX5_cell_47 (by decide) ?_
        exact g_iretR X h dX5_cell_48
      · replace h := gF c h
        refine g_bipush X (-12) dX5_cell_34 (by decide) ?_
        exact g_iretR X h dX5_cell_36
  · replace h := gF c h
    refine g_iload X dX5_cell_15 0 rfl ?_
    exact g_iretR X h dX5_cell_17

theorem mX5_cell {l : Launch} {D : va_G} {cA : Nat → ClassId} {r : Nat → Nat} {v : gV} {x1 : Int32} {x2 : Int32} {x3 : Int32} {xr : Int32} {v' : gV} (h : fX5_cell v x1 x2 x3 = some (xr, v')) : Ct l D (tysC cA) (shC cA r) 50 r (ZC r) yX5_cell cX5_cell 5 (some .int) rmX5_cell [.ref (r 0), .int x1, .int x2, .int x3] v (some (.int xr)) v' := ct_of plX5 ZC_ok (Nat.le_of_ble_eq_true rfl) rfl (fun _ X => bX5_cell_0 X v x1 x2 x3 h)

def rmX5_copy : Room := { frames := 2, cells := 0, slots := 0, locals := 41 }

set_option maxHeartbeats 4000000 in
set_option maxRecDepth 100000 in
theorem bX5_copy_0 {l : Launch} {D : va_G} {cA : Nat → ClassId} {r : Nat → Nat} {G : gG} {xr : Int32} {v' : gV} (X : XC l D cA r RX5 cX5_copy 6 (some .int) rmX5_copy (some (.int xr)) v' G) (v : gV) (x1 : Int32) (x2 : Int32) (x3 : Int32) (x4 : Int32) (x5 : Int32) (h : fX5_copy v x1 x2 x3 x4 x5 = some (xr, v')) : G v [(0, .ref (r 0)), (1, .int x1), (2, .int x2), (3, .int x3), (4, .int x4), (5, .int x5)] 0 [] := by
  unfold fX5_copy at h
  refine g_iload_n X dX5_copy_0 rfl 1 rfl ?_
  obtain ⟨y1, v2, hc3, h⟩ := gB_inv h
  refine g_callS X (st := []) (st' := [.int y1]) kcX2_isSheet ktX2_isSheet kl5_224 (⟨rfl, rfl, by decide, by decide⟩) (mX2_isSheet hc3) rfl rfl (Nat.le_of_ble_eq_true rfl) rfl dX5_copy_1 ?_
  refine g_if_eq X 14 dX5_copy_4 (by decide) (fun c => ?_) (fun c => ?_)
  · replace h := gTr c h
    refine g_bipush X (-2) dX5_copy_14 (by decide) ?_
    exact g_iretR X h dX5_copy_16
  · replace h := gF c h
    refine g_iload_n X dX5_copy_7 rfl 3 rfl ?_
    obtain ⟨y4, v5, hc6, h⟩ := gB_inv h
    refine g_callS X (st := []) (st' := [.int y4]) kcX2_isSheet ktX2_isSheet kl5_224 (⟨rfl, rfl, by decide, by decide⟩) (mX2_isSheet hc6) rfl rfl (Nat.le_of_ble_eq_true rfl) rfl dX5_copy_8 ?_
    refine g_if_ne X 17 dX5_copy_11 (by decide) (fun c => ?_) (fun c => ?_)
    · replace h := gF c h
      refine g_aload_n X dX5_copy_17 rfl 0 rfl ?_
      refine g_get X fl5_44 hNC_0 (shC_0 _) rfl dX5_copy_18 ?_
      refine g_iload_n X dX5_copy_21 rfl 1 rfl ?_
      obtain ⟨y7, v8, hc9, h⟩ := gB_inv h
      refine g_callV X (st := []) (st' := [.int y7]) kcX2_refusal kvX2_refusal kl5_218 (⟨rfl, rfl, by decide, by decide⟩) (mX2_refusal hc9) hNC_7 (shC_7 _) rfl rfl rfl (Nat.le_of_ble_eq_true rfl) rfl dX5_copy_22 ?_
      refine g_if_ne X 39 dX5_copy_25 (by decide) (fun c => ?_) (fun c => ?_)
      · replace h := gF c h
        refine g_bipush X (-11) dX5_copy_39 (by decide) ?_
        exact g_iretR X h dX5_copy_41
      · replace h := gTr c h
        refine g_aload_n X dX5_copy_28 rfl 0 rfl ?_
        refine g_get X fl5_44 hNC_0 (shC_0 _) rfl dX5_copy_29 ?_
        refine g_iload_n X dX5_copy_32 rfl 3 rfl ?_
        obtain ⟨y10, v11, hc12, h⟩ := gB_inv h
        refine g_callV X (st := []) (st' := [.int y10]) kcX2_refusal kvX2_refusal kl5_218 (⟨rfl, rfl, by decide, by decide⟩) (mX2_refusal hc12) hNC_7 (shC_7 _) rfl rfl rfl (Nat.le_of_ble_eq_true rfl) rfl dX5_copy_33 ?_
        refine g_if_eq X 42 dX5_copy_36 (by decide) (fun c => ?_) (fun c => ?_)
        · replace h := gTr c h
          refine g_aload_n X dX5_copy_42 rfl 0 rfl ?_
          refine g_get X fl5_44 hNC_0 (shC_0 _) rfl dX5_copy_43 ?_
          refine g_get X fl5_273 hNC_7 (shC_7 _) rfl dX5_copy_46 ?_
          refine g_iload_n X dX5_copy_49 rfl 1 rfl ?_
          obtain ⟨c, h⟩ := gGd h
          refine g_iald X hNC_15 (shC_15 _) rfl (gin_in c) dX5_copy_50 ?_
          refine g_aload_n X dX5_copy_51 rfl 0 rfl ?_
          refine g_get X fl5_44 hNC_0 (shC_0 _) rfl dX5_copy_52 ?_
          refine g_get X fl5_273 hNC_7 (shC_7 _) rfl dX5_copy_55 ?_
          refine g_iload_n X dX5_copy_58 rfl 3 rfl ?_
          obtain ⟨c, h⟩ := gGd h
          refine g_iald X hNC_15 (shC_15 _) rfl (gin_in c) dX5_copy_59 ?_
          refine g_icmp_eq X 66 dX5_copy_60 (by decide) (fun c => ?_) (fun c => ?_)
          · replace h := gTr c h
            refine g_iload_n X dX5_copy_66 rfl 2 rfl ?_
            refine g_if_lt X 80 dX5_copy_67 (by decide) (fun c => ?_) (fun c => ?_)
            · replace h := gTr c h
              refine g_bipush X (-12) dX5_copy_80 (by decide) ?_
              exact g_iretR X h dX5_copy_82
            · replace h := gF c h
              refine g_iload X dX5_copy_70 4 rfl ?_
              refine g_if_lt X 80 dX5_copy_72 (by decide) (fun c => ?_) (fun c => ?_)
              · replace h := gTr c h
                refine g_bipush X (-12) dX5_copy_80 (by decide) ?_
                exact g_iretR X h dX5_copy_82
              · replace h := gF c h
                refine g_iload X dX5_copy_75 5 rfl ?_
                refine g_if_ge X 83 dX5_copy_77 (by decide) (fun c => ?_) (fun c => ?_)
                · replace h := gTr c h
                  refine g_iload X dX5_copy_83 5 rfl ?_
                  refine g_aload_n X dX5_copy_85 rfl 0 rfl ?_
                  refine g_get X fl5_44 hNC_0 (shC_0 _) rfl dX5_copy_86 ?_
                  refine g_iload_n X dX5_copy_89 rfl 1 rfl ?_
                  obtain ⟨y13, v14, hc15, h⟩ := gB_inv h
                  refine g_callV X (st := [.int x5]) (st' := [.int y13, .int x5]) kcX2_sizeOf kvX2_sizeOf kl5_236 (⟨rfl, rfl, by decide, by decide⟩) (mX2_sizeOf hc15) hNC_7 (shC_7 _) rfl rfl rfl (Nat.le_of_ble_eq_true rfl) rfl dX5_copy_90 ?_
                  refine g_iload_n X dX5_copy_93 rfl 2 rfl ?_
                  refine g_isub X dX5_copy_94 ?_
                  refine g_icmp_gt X 114 dX5_copy_95 (by decide) (fun c => ?_) (fun c => ?_)
                  · replace h := gTr c h
                    refine g_bipush X (-12) dX5_copy_114 (by decide) ?_
                    exact g_iretR X h dX5_copy_116
                  · replace h := gF c h
                    refine g_iload X dX5_copy_98 5 rfl ?_
                    refine g_aload_n X dX5_copy_100 rfl 0 rfl ?_
                    refine g_get X fl5_44 hNC_0 (shC_0 _) rfl dX5_copy_101 ?_
                    refine g_iload_n X dX5_copy_104 rfl 3 rfl ?_
                    obtain ⟨y16, v17, hc18, h⟩ := gB_inv h
                    refine g_callV X (st := [.int x5]) (st' := [.int y16, .int x5]) kcX2_sizeOf kvX2_sizeOf kl5_236 (⟨rfl, rfl, by decide, by decide⟩) (mX2_sizeOf hc18) hNC_7 (shC_7 _) rfl rfl rfl (Nat.le_of_ble_eq_true rfl) rfl dX5_copy_105 ?_
                    refine g_iload X dX5_copy_108 4 rfl ?_
                    refine g_isub X dX5_copy_110 ?_
                    refine g_icmp_le X 117 dX5_copy_111 (by decide) (fun c => ?_) (fun c => ?_)
                    · replace h := gTr c h
                      refine g_aload_n X dX5_copy_117 rfl 0 rfl ?_
                      refine g_get X fl5_44 hNC_0 (shC_0 _) rfl dX5_copy_118 ?_
                      refine g_get X fl5_274 hNC_7 (shC_7 _) rfl dX5_copy_121 ?_
                      refine g_iload_n X dX5_copy_124 rfl 1 rfl ?_
                      obtain ⟨c19, h⟩ := gGd h
                      refine g_aald X (b := r (27 + x1.toNatClampNeg)) (t0 := 2) hNC_14 (shC_14 _) rfl rfl (gin_in c19) rfl dX5_copy_125 ?_
                      refine g_iload_n X dX5_copy_126 rfl 2 rfl ?_
                      refine g_aload_n X dX5_copy_127 rfl 0 rfl ?_
                      refine g_get X fl5_44 hNC_0 (shC_0 _) rfl dX5_copy_128 ?_
                      refine g_get X fl5_274 hNC_7 (shC_7 _) rfl dX5_copy_131 ?_
                      refine g_iload_n X dX5_copy_134 rfl 3 rfl ?_
                      obtain ⟨c20, h⟩ := gGd h
                      refine g_aald X (b := r (27 + x3.toNatClampNeg)) (t0 := 2) hNC_14 (shC_14 _) rfl rfl (gin_in c20) rfl dX5_copy_135 ?_
                      refine g_iload X dX5_copy_136 4 rfl ?_
                      refine g_iload X dX5_copy_138 5 rfl ?_
                      obtain ⟨c, h⟩ := gGd h
                      refine g_copyK X (gcp_of c) km5_176 kcopy.1 kcopy.2.1 kcopy.2.2 (shC_srow_lt (gin_lt c19)) (shC_srow_lt (gin_lt c20)) (shC_srow (gin_lt c19) _) (shC_srow (gin_lt c20)) rfl rfl (by decide) (by decide) (Nat.le_of_ble_eq_true rfl) dX5_copy_140 ?_
                      refine g_iload X dX5_copy_143 5 rfl ?_
                      exact g_iretR X h dX5_copy_145
                    · replace h := gF c h
                      refine g_bipush X (-12) dX5_copy_114 (by decide) ?_
                      exact g_iretR X h dX5_copy_116
                · replace h := gF c h
                  refine g_bipush X (-12) dX5_copy_80 (by decide) ?_
                  exact g_iretR X h dX5_copy_82
          · replace h := gF c h
            refine g_bipush X (-13) dX5_copy_63 (by decide) ?_
            exact g_iretR X h dX5_copy_65
        · replace h := gF c h
          refine g_bipush X (-11) dX5_copy_39 (by decide) ?_
          exact g_iretR X h dX5_copy_41
    · replace h := gTr c h
      refine g_bipush X (-2) dX5_copy_14 (by decide) ?_
      exact g_iretR X h dX5_copy_16

theorem mX5_copy {l : Launch} {D : va_G} {cA : Nat → ClassId} {r : Nat → Nat} {v : gV} {x1 : Int32} {x2 : Int32} {x3 : Int32} {x4 : Int32} {x5 : Int32} {xr : Int32} {v' : gV} (h : fX5_copy v x1 x2 x3 x4 x5 = some (xr, v')) : Ct l D (tysC cA) (shC cA r) 50 r (ZC r) yX5_copy cX5_copy 6 (some .int) rmX5_copy [.ref (r 0), .int x1, .int x2, .int x3, .int x4, .int x5] v (some (.int xr)) v' := ct_of plX5 ZC_ok (Nat.le_of_ble_eq_true rfl) rfl (fun _ X => bX5_copy_0 X v x1 x2 x3 x4 x5 h)

def rmX5_ratesBy : Room := { frames := 2, cells := 0, slots := 0, locals := 43 }

set_option maxHeartbeats 4000000 in
set_option maxRecDepth 100000 in
theorem bX5_ratesBy_164 {l : Launch} {D : va_G} {cA : Nat → ClassId} {r : Nat → Nat} {G : gG} {xr : Int32} {v' : gV} {k68 : gV → Int32 → Int32 → Int32 → Int32 → Int32 → Option (Int32 × gV)} (X : XC l D cA r RX5 cX5_ratesBy 10 (some .int) rmX5_ratesBy (some (.int xr)) v' G) (K68 : ∀ (v : gV) (x1 : Int32) (x3 : Int32) (x4 : Int32) (x6 : Int32) (x7 : Int32), k68 v x1 x3 x4 x6 x7 = some (xr, v') → G v [(0, .ref (r 0)), (1, .int x1), (3, .int x3), (4, .int x4), (6, .int x6), (7, .int x7)] 68 []) (v : gV) (x1 : Int32) (x3 : Int32) (x4 : Int32) (x7 : Int32) (s0 : Int32) (s1 : Int32) (h : fX5_ratesBy_164 k68 v x1 x3 x4 x7 s0 s1 = some (xr, v')) : G v [(0, .ref (r 0)), (1, .int x1), (3, .int x3), (4, .int x4), (7, .int x7)] 164 [.int s1, .int s0] := by
  unfold fX5_ratesBy_164 at h
  refine g_iadd X dX5_ratesBy_164 ?_
  refine g_istore X (ls' := [(6, .int (s0 + s1)), (0, .ref (r 0)), (1, .int x1), (3, .int x3), (4, .int x4), (7, .int x7)]) dX5_ratesBy_165 (by decide) rfl ?_
  refine g_iinc X (x7 + 1) [(7, .int (x7 + 1)), (6, .int (s0 + s1)), (0, .ref (r 0)), (1, .int x1), (3, .int x3), (4, .int x4)] dX5_ratesBy_167 5 rfl rfl (by decide) rfl ?_
  refine g_goto X 68 dX5_ratesBy_170 (by decide) ?_
  refine g_sub X [2, 3, 4, 5, 1, 0] (ls' := [(0, .ref (r 0)), (1, .int x1), (3, .int x3), (4, .int x4), (6, .int (s0 + s1)), (7, .int (x7 + 1))]) rfl ?_
  exact K68 _ _ _ _ _ _  h

set_option maxHeartbeats 4000000 in
set_option maxRecDepth 100000 in
theorem bX5_ratesBy_68 {l : Launch} {D : va_G} {cA : Nat → ClassId} {r : Nat → Nat} {G : gG} {xr : Int32} {v' : gV} (X : XC l D cA r RX5 cX5_ratesBy 10 (some .int) rmX5_ratesBy (some (.int xr)) v' G) : ∀ (n : Nat) (v : gV) (x1 : Int32) (x3 : Int32) (x4 : Int32) (x6 : Int32) (x7 : Int32), fX5_ratesBy_68 n v x1 x3 x4 x6 x7 = some (xr, v') → G v [(0, .ref (r 0)), (1, .int x1), (3, .int x3), (4, .int x4), (6, .int x6), (7, .int x7)] 68 [] := by
  intro n
  induction n with
  | zero => intro v x1 x3 x4 x6 x7 h; rw [fX5_ratesBy_68] at h; cases h
  | succ n ih =>
    intro v x1 x3 x4 x6 x7 h
    rw [fX5_ratesBy_68] at h
    refine g_iload X dX5_ratesBy_68 5 rfl ?_
    refine g_iload X dX5_ratesBy_70 3 rfl ?_
    refine g_icmp_ge X 173 dX5_ratesBy_72 (by decide) (fun c => ?_) (fun c => ?_)
    · replace h := gTr c h
      refine g_iload X dX5_ratesBy_173 4 rfl ?_
      exact g_iretR X h dX5_ratesBy_175
    · replace h := gF c h
      refine g_iload_n X dX5_ratesBy_75 rfl 2 rfl ?_
      refine g_if_lt X 98 dX5_ratesBy_76 (by decide) (fun c => ?_) (fun c => ?_)
      · replace h := gTr c h
        refine g_bipush X (-12) dX5_ratesBy_98 (by decide) ?_
        exact g_iretR X h dX5_ratesBy_100
      · replace h := gF c h
        refine g_iload_n X dX5_ratesBy_79 rfl 2 rfl ?_
        refine g_aload_n X dX5_ratesBy_80 rfl 0 rfl ?_
        refine g_get X fl5_44 hNC_0 (shC_0 _) rfl dX5_ratesBy_81 ?_
        refine g_iload_n X dX5_ratesBy_84 rfl 1 rfl ?_
        obtain ⟨y10, v11, hc12, h⟩ := gB_inv h
        refine g_callV X (st := [.int x3]) (st' := [.int y10, .int x3]) kcX2_sizeOf kvX2_sizeOf kl5_236 (⟨rfl, rfl, by decide, by decide⟩) (mX2_sizeOf hc12) hNC_7 (shC_7 _) rfl rfl rfl (Nat.le_of_ble_eq_true rfl) rfl dX5_ratesBy_85 ?_
        refine g_iconst X 3 dX5_ratesBy_88 (by decide) ?_
        refine g_iload X dX5_ratesBy_89 5 rfl ?_
        refine g_iconst X 1 dX5_ratesBy_91 (by decide) ?_
        refine g_iadd X dX5_ratesBy_92 ?_
        refine g_imul X dX5_ratesBy_93 ?_
        refine g_isub X dX5_ratesBy_94 ?_
        refine g_icmp_le X 101 dX5_ratesBy_95 (by decide) (fun c => ?_) (fun c => ?_)
        · replace h := gTr c h
          refine g_iload_n X dX5_ratesBy_101 rfl 2 rfl ?_
          refine g_iconst X 3 dX5_ratesBy_102 (by decide) ?_
          refine g_iload X dX5_ratesBy_103 5 rfl ?_
          refine g_imul X dX5_ratesBy_105 ?_
          refine g_iadd X dX5_ratesBy_106 ?_
          refine g_istore X (ls' := [(8, .int (x3 + (3 * x7))), (0, .ref (r 0)), (1, .int x1), (3, .int x3), (4, .int x4), (6, .int x6), (7, .int x7)]) dX5_ratesBy_107 (by decide) rfl ?_
          refine g_aload_n X dX5_ratesBy_109 rfl 1 rfl ?_
          refine g_get X fl5_24 hNC_0 (shC_0 _) rfl dX5_ratesBy_110 ?_
          refine g_aload_n X dX5_ratesBy_113 rfl 1 rfl ?_
          refine g_get X fl5_44 hNC_0 (shC_0 _) rfl dX5_ratesBy_114 ?_
          refine g_iload_n X dX5_ratesBy_117 rfl 2 rfl ?_
          refine g_iload X dX5_ratesBy_118 0 rfl ?_
          obtain ⟨y13, v14, hc15, h⟩ := gB_inv h
          refine g_callV X (st := [.ref (r 4)]) (st' := [.int y13, .ref (r 4)]) kcX2_get kvX2_get kl5_239 (⟨rfl, rfl, by decide, by decide⟩) (mX2_get hc15) hNC_7 (shC_7 _) rfl rfl rfl (Nat.le_of_ble_eq_true rfl) rfl dX5_ratesBy_120 ?_
          refine g_aload_n X dX5_ratesBy_123 rfl 1 rfl ?_
          refine g_get X fl5_44 hNC_0 (shC_0 _) rfl dX5_ratesBy_124 ?_
          refine g_iload_n X dX5_ratesBy_127 rfl 2 rfl ?_
          refine g_iload X dX5_ratesBy_128 0 rfl ?_
          refine g_iconst X 1 dX5_ratesBy_130 (by decide) ?_
          refine g_iadd X dX5_ratesBy_131 ?_
          obtain ⟨y16, v17, hc18, h⟩ := gB_inv h
          refine g_callV X (st := [.int y13, .ref (r 4)]) (st' := [.int y16, .int y13, .ref (r 4)]) kcX2_get kvX2_get kl5_239 (⟨rfl, rfl, by decide, by decide⟩) (mX2_get hc18) hNC_7 (shC_7 _) rfl rfl rfl (Nat.le_of_ble_eq_true rfl) rfl dX5_ratesBy_132 ?_
          refine g_aload_n X dX5_ratesBy_135 rfl 1 rfl ?_
          refine g_get X fl5_44 hNC_0 (shC_0 _) rfl dX5_ratesBy_136 ?_
          refine g_iload_n X dX5_ratesBy_139 rfl 2 rfl ?_
          refine g_iload X dX5_ratesBy_140 0 rfl ?_
          refine g_iconst X 2 dX5_ratesBy_142 (by decide) ?_
          refine g_iadd X dX5_ratesBy_143 ?_
          obtain ⟨y19, v20, hc21, h⟩ := gB_inv h
          refine g_callV X (st := [.int y16, .int y13, .ref (r 4)]) (st' := [.int y19, .int y16, .int y13, .ref (r 4)]) kcX2_get kvX2_get kl5_239 (⟨rfl, rfl, by decide, by decide⟩) (mX2_get hc21) hNC_7 (shC_7 _) rfl rfl rfl (Nat.le_of_ble_eq_true rfl) rfl dX5_ratesBy_144 ?_
          obtain ⟨y22, v23, hc24, h⟩ := gB_inv h
          refine g_callV X (st := []) (st' := [.int y22]) kcX1_put kvX1_put kl5_113 (⟨rfl, rfl, by decide, by decide⟩) (mX1_put hc24) hNC_4 (shC_4 _) rfl rfl rfl (Nat.le_of_ble_eq_true rfl) rfl dX5_ratesBy_147 ?_
          refine g_istore X (ls' := [(9, .int y22), (8, .int (x3 + (3 * x7))), (0, .ref (r 0)), (1, .int x1), (3, .int x3), (4, .int x4), (6, .int x6), (7, .int x7)]) dX5_ratesBy_150 (by decide) rfl ?_
          refine g_iload X dX5_ratesBy_152 6 rfl ?_
          refine g_iload X dX5_ratesBy_154 0 rfl ?_
          refine g_if_lt X 163 dX5_ratesBy_156 (by decide) (fun c => ?_) (fun c => ?_)
          · replace h := gTr c h
            refine g_iconst X 0 dX5_ratesBy_163 (by decide) ?_
            refine g_sub X [2, 3, 4, 5, 7] (ls' := [(0, .ref (r 0)), (1, .int x1), (3, .int x3), (4, .int x4), (7, .int x7)]) rfl ?_
            exact bX5_ratesBy_164 X ih _ _ _ _ _ _ _  h
          · replace h := gF c h
            refine g_iconst X 1 dX5_ratesBy_159 (by decide) ?_
            refine g_goto X 164 dX5_ratesBy_160 (by decide) ?_
            refine g_sub X [2, 3, 4, 5, 7] (ls' := [(0, .ref (r 0)), (1, .int x1), (3, .int x3), (4, .int x4), (7, .int x7)]) rfl ?_
            exact bX5_ratesBy_164 X ih _ _ _ _ _ _ _  h
        · replace h := gF c h
          refine g_bipush X (-12) dX5_ratesBy_98 (by decide) ?_
          exact g_iretR X h dX5_ratesBy_100

set_option maxHeartbeats 4000000 in
set_option maxRecDepth 100000 in
theorem bX5_ratesBy_0 {l : Launch} {D : va_G} {cA : Nat → ClassId} {r : Nat → Nat} {G : gG} {xr : Int32} {v' : gV} (X : XC l D cA r RX5 cX5_ratesBy 10 (some .int) rmX5_ratesBy (some (.int xr)) v' G) (v : gV) (x1 : Int32) (x2 : Int32) (x3 : Int32) (x4 : Int32) (h : fX5_ratesBy v x1 x2 x3 x4 = some (xr, v')) : G v [(0, .ref (r 0)), (1, .int x1), (2, .int x2), (3, .int x3), (4, .int x4)] 0 [] := by
  unfold fX5_ratesBy at h
  refine g_iload_n X dX5_ratesBy_0 rfl 1 rfl ?_
  obtain ⟨y1, v2, hc3, h⟩ := gB_inv h
  refine g_callS X (st := []) (st' := [.int y1]) kcX2_isSheet ktX2_isSheet kl5_224 (⟨rfl, rfl, by decide, by decide⟩) (mX2_isSheet hc3) rfl rfl (Nat.le_of_ble_eq_true rfl) rfl dX5_ratesBy_1 ?_
  refine g_if_eq X 25 dX5_ratesBy_4 (by decide) (fun c => ?_) (fun c => ?_)
  · replace h := gTr c h
    refine g_bipush X (-2) dX5_ratesBy_25 (by decide) ?_
    exact g_iretR X h dX5_ratesBy_27
  · replace h := gF c h
    refine g_iload_n X dX5_ratesBy_7 rfl 2 rfl ?_
    obtain ⟨y4, v5, hc6, h⟩ := gB_inv h
    refine g_callS X (st := []) (st' := [.int y4]) kcX2_isSort ktX2_isSort kl5_270 (⟨rfl, rfl, by decide, by decide⟩) (mX2_isSort hc6) rfl rfl (Nat.le_of_ble_eq_true rfl) rfl dX5_ratesBy_8 ?_
    refine g_if_eq X 25 dX5_ratesBy_11 (by decide) (fun c => ?_) (fun c => ?_)
    · replace h := gTr c h
      refine g_bipush X (-2) dX5_ratesBy_25 (by decide) ?_
      exact g_iretR X h dX5_ratesBy_27
    · replace h := gF c h
      refine g_iload X dX5_ratesBy_14 4 rfl ?_
      refine g_if_lt X 25 dX5_ratesBy_16 (by decide) (fun c => ?_) (fun c => ?_)
      · replace h := gTr c h
        refine g_bipush X (-2) dX5_ratesBy_25 (by decide) ?_
        exact g_iretR X h dX5_ratesBy_27
      · replace h := gF c h
        refine g_iload X dX5_ratesBy_19 4 rfl ?_
        refine g_iconst X 5 dX5_ratesBy_21 (by decide) ?_
        refine g_icmp_le X 28 dX5_ratesBy_22 (by decide) (fun c => ?_) (fun c => ?_)
        · replace h := gTr c h
          refine g_aload_n X dX5_ratesBy_28 rfl 0 rfl ?_
          refine g_get X fl5_44 hNC_0 (shC_0 _) rfl dX5_ratesBy_29 ?_
          refine g_iload_n X dX5_ratesBy_32 rfl 1 rfl ?_
          obtain ⟨y7, v8, hc9, h⟩ := gB_inv h
          refine g_callV X (st := []) (st' := [.int y7]) kcX2_refusal kvX2_refusal kl5_218 (⟨rfl, rfl, by decide, by decide⟩) (mX2_refusal hc9) hNC_7 (shC_7 _) rfl rfl rfl (Nat.le_of_ble_eq_true rfl) rfl dX5_ratesBy_33 ?_
          refine g_istore X (ls' := [(5, .int y7), (0, .ref (r 0)), (1, .int x1), (2, .int x2), (3, .int x3), (4, .int x4)]) dX5_ratesBy_36 (by decide) rfl ?_
          refine g_iload X dX5_ratesBy_38 0 rfl ?_
          refine g_if_eq X 46 dX5_ratesBy_40 (by decide) (fun c => ?_) (fun c => ?_)
          · replace h := gTr c h
            refine g_aload_n X dX5_ratesBy_46 rfl 1 rfl ?_
            refine g_get X fl5_44 hNC_0 (shC_0 _) rfl dX5_ratesBy_47 ?_
            refine g_get X fl5_273 hNC_7 (shC_7 _) rfl dX5_ratesBy_50 ?_
            refine g_iload_n X dX5_ratesBy_53 rfl 2 rfl ?_
            obtain ⟨c, h⟩ := gGd h
            refine g_iald X hNC_15 (shC_15 _) rfl (gin_in c) dX5_ratesBy_54 ?_
            refine g_iload_n X dX5_ratesBy_55 rfl 3 rfl ?_
            refine g_icmp_eq X 62 dX5_ratesBy_56 (by decide) (fun c => ?_) (fun c => ?_)
            · replace h := gTr c h
              refine g_iconst X 0 dX5_ratesBy_62 (by decide) ?_
              refine g_istore X (ls' := [(6, .int 0), (5, .int y7), (0, .ref (r 0)), (1, .int x1), (2, .int x2), (3, .int x3), (4, .int x4)]) dX5_ratesBy_63 (by decide) rfl ?_
              refine g_iconst X 0 dX5_ratesBy_65 (by decide) ?_
              refine g_istore X (ls' := [(7, .int 0), (6, .int 0), (5, .int y7), (0, .ref (r 0)), (1, .int x1), (2, .int x2), (3, .int x3), (4, .int x4)]) dX5_ratesBy_66 (by decide) rfl ?_
              refine g_sub X [3, 4, 6, 7, 1, 0] (ls' := [(0, .ref (r 0)), (1, .int x1), (3, .int x3), (4, .int x4), (6, .int 0), (7, .int 0)]) rfl ?_
              exact bX5_ratesBy_68 X  _ _ _ _ _ _ _  h
            · replace h := gF c h
              refine g_bipush X (-13) dX5_ratesBy_59 (by decide) ?_
              exact g_iretR X h dX5_ratesBy_61
          · replace h := gF c h
            refine g_iload X dX5_ratesBy_43 0 rfl ?_
            exact g_iretR X h dX5_ratesBy_45
        · replace h := gF c h
          refine g_bipush X (-2) dX5_ratesBy_25 (by decide) ?_
          exact g_iretR X h dX5_ratesBy_27

theorem mX5_ratesBy {l : Launch} {D : va_G} {cA : Nat → ClassId} {r : Nat → Nat} {v : gV} {x1 : Int32} {x2 : Int32} {x3 : Int32} {x4 : Int32} {xr : Int32} {v' : gV} (h : fX5_ratesBy v x1 x2 x3 x4 = some (xr, v')) : Ct l D (tysC cA) (shC cA r) 50 r (ZC r) yX5_ratesBy cX5_ratesBy 10 (some .int) rmX5_ratesBy [.ref (r 0), .int x1, .int x2, .int x3, .int x4] v (some (.int xr)) v' := ct_of plX5 ZC_ok (Nat.le_of_ble_eq_true rfl) rfl (fun _ X => bX5_ratesBy_0 X v x1 x2 x3 x4 h)

def rmX5_taken : Room := { frames := 1, cells := 0, slots := 0, locals := 23 }

set_option maxHeartbeats 4000000 in
set_option maxRecDepth 100000 in
theorem bX5_taken_0 {l : Launch} {D : va_G} {cA : Nat → ClassId} {r : Nat → Nat} {G : gG} {xr : Int32} {v' : gV} (X : XC l D cA r RX5 cX5_taken 4 (some .int) rmX5_taken (some (.int xr)) v' G) (v : gV) (x1 : Int32) (x2 : Int32) (h : fX5_taken v x1 x2 = some (xr, v')) : G v [(0, .ref (r 0)), (1, .int x1), (2, .int x2)] 0 [] := by
  unfold fX5_taken at h
  refine g_iload_n X dX5_taken_0 rfl 2 rfl ?_
  refine g_if_lt X 10 dX5_taken_1 (by decide) (fun c => ?_) (fun c => ?_)
  · replace h := gTr c h
    refine g_bipush X (-2) dX5_taken_10 (by decide) ?_
    exact g_iretR X h dX5_taken_12
  · replace h := gF c h
    refine g_iload_n X dX5_taken_4 rfl 2 rfl ?_
    refine g_bipush X 6 dX5_taken_5 (by decide) ?_
    refine g_icmp_le X 13 dX5_taken_7 (by decide) (fun c => ?_) (fun c => ?_)
    · replace h := gTr c h
      refine g_iload_n X dX5_taken_13 rfl 1 rfl ?_
      refine g_if_lt X 23 dX5_taken_14 (by decide) (fun c => ?_) (fun c => ?_)
      · replace h := gTr c h
        refine g_bipush X (-12) dX5_taken_23 (by decide) ?_
        exact g_iretR X h dX5_taken_25
      · replace h := gF c h
        refine g_iload_n X dX5_taken_17 rfl 1 rfl ?_
        refine g_bipush X 9 dX5_taken_18 (by decide) ?_
        refine g_icmp_lt X 26 dX5_taken_20 (by decide) (fun c => ?_) (fun c => ?_)
        · replace h := gTr c h
          refine g_iload_n X dX5_taken_26 rfl 1 rfl ?_
          refine g_iconst X 3 dX5_taken_27 (by decide) ?_
          refine g_icmp_gt X 61 dX5_taken_28 (by decide) (fun c => ?_) (fun c => ?_)
          · replace h := gTr c h
            refine g_iload_n X dX5_taken_61 rfl 1 rfl ?_
            refine g_iconst X 4 dX5_taken_62 (by decide) ?_
            refine g_isub X dX5_taken_63 ?_
            refine g_istore_n X (ls' := [(3, .int (x1 - 4)), (0, .ref (r 0)), (1, .int x1), (2, .int x2)]) dX5_taken_64 rfl (by decide) rfl ?_
            refine g_aload_n X dX5_taken_65 rfl 1 rfl ?_
            refine g_get X fl5_24 hNC_0 (shC_0 _) rfl dX5_taken_66 ?_
            refine g_iload_n X dX5_taken_69 rfl 0 rfl ?_
            obtain ⟨y1, v2, hc3, h⟩ := gB_inv h
            refine g_callV X (st := []) (st' := [.int y1]) kcX1_has kvX1_has kl5_117 (⟨rfl, rfl, by decide, by decide⟩) (mX1_has hc3) hNC_4 (shC_4 _) rfl rfl rfl (Nat.le_of_ble_eq_true rfl) rfl dX5_taken_70 ?_
            refine g_if_ne X 79 dX5_taken_73 (by decide) (fun c => ?_) (fun c => ?_)
            · replace h := gF c h
              refine g_aload_n X dX5_taken_79 rfl 1 rfl ?_
              refine g_get X fl5_24 hNC_0 (shC_0 _) rfl dX5_taken_80 ?_
              refine g_get X fl5_126 hNC_4 (shC_4 _) rfl dX5_taken_83 ?_
              refine g_iload_n X dX5_taken_86 rfl 0 rfl ?_
              obtain ⟨c, h⟩ := gGd h
              refine g_iald X hNC_9 (shC_9 _) rfl (gin_in c) dX5_taken_87 ?_
              refine g_iload_n X dX5_taken_88 rfl 3 rfl ?_
              obtain ⟨y4, v5, hc6, h⟩ := gB_inv h
              refine g_callS X (st := []) (st' := [.int y4]) kcX1_isOne ktX1_isOne kl5_277 (⟨rfl, rfl, by decide, by decide⟩) (mX1_isOne hc6) rfl rfl (Nat.le_of_ble_eq_true rfl) rfl dX5_taken_89 ?_
              refine g_if_eq X 99 dX5_taken_92 (by decide) (fun c => ?_) (fun c => ?_)
              · replace h := gTr c h
                refine g_bipush X (-13) dX5_taken_99 (by decide) ?_
                exact g_iretR X h dX5_taken_101
              · replace h := gF c h
                refine g_iload_n X dX5_taken_95 rfl 0 rfl ?_
                refine g_goto X 101 dX5_taken_96 (by decide) ?_
                exact g_iretR X h dX5_taken_101
            · replace h := gTr c h
              refine g_bipush X (-11) dX5_taken_76 (by decide) ?_
              exact g_iretR X h dX5_taken_78
          · replace h := gF c h
            refine g_aload_n X dX5_taken_31 rfl 0 rfl ?_
            refine g_get X fl5_9 hNC_0 (shC_0 _) rfl dX5_taken_32 ?_
            refine g_iload_n X dX5_taken_35 rfl 1 rfl ?_
            obtain ⟨c, h⟩ := gGd h
            refine g_iald X hNC_1 (shC_1 _) rfl (gin_in c) dX5_taken_36 ?_
            refine g_if_ne X 43 dX5_taken_37 (by decide) (fun c => ?_) (fun c => ?_)
            · replace h := gF c h
              refine g_iload_n X dX5_taken_43 rfl 2 rfl ?_
              refine g_bipush X 6 dX5_taken_44 (by decide) ?_
              refine g_icmp_ne X 58 dX5_taken_46 (by decide) (fun c => ?_) (fun c => ?_)
              · replace h := gF c h
                refine g_bipush X (-13) dX5_taken_58 (by decide) ?_
                exact g_iretR X h dX5_taken_60
              · replace h := gTr c h
                refine g_aload_n X dX5_taken_49 rfl 0 rfl ?_
                refine g_get X fl5_9 hNC_0 (shC_0 _) rfl dX5_taken_50 ?_
                refine g_iload_n X dX5_taken_53 rfl 1 rfl ?_
                obtain ⟨c, h⟩ := gGd h
                refine g_iald X hNC_1 (shC_1 _) rfl (gin_in c) dX5_taken_54 ?_
                refine g_goto X 60 dX5_taken_55 (by decide) ?_
                exact g_iretR X h dX5_taken_60
            · replace h := gTr c h
              refine g_bipush X (-11) dX5_taken_40 (by decide) ?_
              exact g_iretR X h dX5_taken_42
        · replace h := gF c h
          refine g_bipush X (-12) dX5_taken_23 (by decide) ?_
          exact g_iretR X h dX5_taken_25
    · replace h := gF c h
      refine g_bipush X (-2) dX5_taken_10 (by decide) ?_
      exact g_iretR X h dX5_taken_12

theorem mX5_taken {l : Launch} {D : va_G} {cA : Nat → ClassId} {r : Nat → Nat} {v : gV} {x1 : Int32} {x2 : Int32} {xr : Int32} {v' : gV} (h : fX5_taken v x1 x2 = some (xr, v')) : Ct l D (tysC cA) (shC cA r) 50 r (ZC r) yX5_taken cX5_taken 4 (some .int) rmX5_taken [.ref (r 0), .int x1, .int x2] v (some (.int xr)) v' := ct_of plX5 ZC_ok (Nat.le_of_ble_eq_true rfl) rfl (fun _ X => bX5_taken_0 X v x1 x2 h)
