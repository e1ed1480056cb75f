def rmX3_append : Room := { frames := 0, cells := 0, slots := 0, locals := 0 }

set_option maxHeartbeats 4000000 in
set_option maxRecDepth 100000 in
theorem bX3_append_0 {l : Launch} {D : va_G} {cA : Nat → ClassId} {r : Nat → Nat} {G : gG} {xr : Unit} {v' : gV} (X : XC l D cA r RX3 cX3_append 2 none rmX3_append none v' G) (v : gV) (x1 : Int32) (h : fX3_append v x1 = some (xr, v')) : G v [(0, .ref (r 5)), (1, .int x1)] 0 [] := by
  unfold fX3_append at h
  refine g_aload_n X dX3_append_0 rfl 0 rfl ?_
  refine g_get X fl3_15 hNC_5 (shC_5 _) rfl dX3_append_1 ?_
  refine g_if_lt X 39 dX3_append_4 (by decide) (fun c => ?_) (fun c => ?_)
  · replace h := gTr c h
    exact g_vretR X h dX3_append_39
  · replace h := gF c h
    refine g_aload_n X dX3_append_7 rfl 0 rfl ?_
    refine g_get X fl3_15 hNC_5 (shC_5 _) rfl dX3_append_8 ?_
    refine g_aload_n X dX3_append_11 rfl 0 rfl ?_
    refine g_get X fl3_9 hNC_5 (shC_5 _) rfl dX3_append_12 ?_
    refine g_alen X (t0 := 0) 160 hNC_13 (shC_13 _) rfl rfl dX3_append_15 ?_
    refine g_icmp_ge X 39 dX3_append_16 (by decide) (fun c => ?_) (fun c => ?_)
    · replace h := gTr c h
      exact g_vretR X h dX3_append_39
    · replace h := gF c h
      refine g_aload_n X dX3_append_19 rfl 0 rfl ?_
      refine g_get X fl3_9 hNC_5 (shC_5 _) rfl dX3_append_20 ?_
      refine g_aload_n X dX3_append_23 rfl 0 rfl ?_
      refine g_get X fl3_15 hNC_5 (shC_5 _) rfl dX3_append_24 ?_
      refine g_iload_n X dX3_append_27 rfl 1 rfl ?_
      obtain ⟨c, h⟩ := gGd h
      refine g_iast X hNC_13 (shC_13) rfl (gin_in c) dX3_append_28 ?_
      refine g_aload_n X dX3_append_29 rfl 0 rfl ?_
      refine g_dup X dX3_append_30 rfl ?_
      refine g_get X fl3_15 hNC_5 (shC_5 _) rfl dX3_append_31 ?_
      refine g_iconst X 1 dX3_append_34 (by decide) ?_
      refine g_iadd X dX3_append_35 ?_
      refine g_put X (fsC3 r) fp3_15 hNC_5 (shC_5) (fun _ => rfl) (Nat.le_of_ble_eq_true rfl) dX3_append_36 ?_
      exact g_vretR X h dX3_append_39

theorem mX3_append {l : Launch} {D : va_G} {cA : Nat → ClassId} {r : Nat → Nat} {v : gV} {x1 : Int32} {xr : Unit} {v' : gV} (h : fX3_append v x1 = some (xr, v')) : Ct l D (tysC cA) (shC cA r) 50 r (ZC r) yX3_append cX3_append 2 none rmX3_append [.ref (r 5), .int x1] v none v' := ct_of plX3 ZC_ok (Nat.le_of_ble_eq_true rfl) rfl (fun _ X => bX3_append_0 X v x1 h)

def rmX3_emit : Room := { frames := 1, cells := 0, slots := 0, locals := 21 }

set_option maxHeartbeats 4000000 in
set_option maxRecDepth 100000 in
theorem bX3_emit_0 {l : Launch} {D : va_G} {cA : Nat → ClassId} {r : Nat → Nat} {G : gG} {xr : Unit} {v' : gV} (X : XC l D cA r RX3 cX3_emit 2 none rmX3_emit none v' G) (v : gV) (x1 : Int32) (h : fX3_emit v x1 = some (xr, v')) : G v [(0, .ref (r 5)), (1, .int x1)] 0 [] := by
  unfold fX3_emit at h
  refine g_aload_n X dX3_emit_0 rfl 0 rfl ?_
  rcases gTxt h with ⟨et, h⟩ | ⟨t1, ht1, et, h⟩
  · refine g_get X fl3_19 hNC_5 (shC_5n et) rfl dX3_emit_1 ?_
    refine g_ifnullQ (a := none) X 15 dX3_emit_4 (by decide) (fun _ => ?_) (fun _ q => by cases q)
    exact g_vretR X h dX3_emit_15
  · refine g_get X fl3_19 hNC_5 (shC_5s et) rfl dX3_emit_1 ?_
    refine g_ifnullQ (a := some (r (31 + t1))) X 15 dX3_emit_4 (by decide) (fun q => by cases q) (fun _ _ => ?_)
    refine g_aload_n X dX3_emit_7 rfl 0 rfl ?_
    rcases gTxt h with ⟨et, h⟩ | ⟨t2, ht2, et, h⟩
    · refine g_get X fl3_19 hNC_5 (shC_5n et) rfl dX3_emit_8 ?_
      refine g_iload_n X dX3_emit_11 rfl 1 rfl ?_
      cases h
    · refine g_get X fl3_19 hNC_5 (shC_5s et) rfl dX3_emit_8 ?_
      refine g_iload_n X dX3_emit_11 rfl 1 rfl ?_
      obtain ⟨y3, v4, hc5, h⟩ := gB_inv h
      refine g_callV X (st := []) (st' := []) kcX4_put kvX4_put kl3_70 (⟨rfl, rfl, by decide, by decide⟩) (mX4_put ht2 hc5) (shC_text_lt ht2) (shC_text ht2 _) rfl rfl rfl (Nat.le_of_ble_eq_true rfl) rfl dX3_emit_12 ?_
      exact g_vretR X h dX3_emit_15

theorem mX3_emit {l : Launch} {D : va_G} {cA : Nat → ClassId} {r : Nat → Nat} {v : gV} {x1 : Int32} {xr : Unit} {v' : gV} (h : fX3_emit v x1 = some (xr, v')) : Ct l D (tysC cA) (shC cA r) 50 r (ZC r) yX3_emit cX3_emit 2 none rmX3_emit [.ref (r 5), .int x1] v none v' := ct_of plX3 ZC_ok (Nat.le_of_ble_eq_true rfl) rfl (fun _ X => bX3_emit_0 X v x1 h)

def rmX3_byteAt : Room := { frames := 0, cells := 0, slots := 0, locals := 0 }

set_option maxHeartbeats 4000000 in
set_option maxRecDepth 100000 in
theorem bX3_byteAt_0 {l : Launch} {D : va_G} {cA : Nat → ClassId} {r : Nat → Nat} {G : gG} {xr : Int32} {v' : gV} (X : XC l D cA r RX3 cX3_byteAt 2 (some .int) rmX3_byteAt (some (.int xr)) v' G) (v : gV) (x1 : Int32) (h : fX3_byteAt v x1 = some (xr, v')) : G v [(0, .ref (r 5)), (1, .int x1)] 0 [] := by
  unfold fX3_byteAt at h
  refine g_iload_n X dX3_byteAt_0 rfl 1 rfl ?_
  refine g_if_lt X 30 dX3_byteAt_1 (by decide) (fun c => ?_) (fun c => ?_)
  · replace h := gTr c h
    refine g_iconst X (-1) dX3_byteAt_30 (by decide) ?_
    exact g_iretR X h dX3_byteAt_31
  · replace h := gF c h
    refine g_iload_n X dX3_byteAt_4 rfl 1 rfl ?_
    refine g_aload_n X dX3_byteAt_5 rfl 0 rfl ?_
    refine g_get X fl3_15 hNC_5 (shC_5 _) rfl dX3_byteAt_6 ?_
    refine g_icmp_ge X 30 dX3_byteAt_9 (by decide) (fun c => ?_) (fun c => ?_)
    · replace h := gTr c h
      refine g_iconst X (-1) dX3_byteAt_30 (by decide) ?_
      exact g_iretR X h dX3_byteAt_31
    · replace h := gF c h
      refine g_iload_n X dX3_byteAt_12 rfl 1 rfl ?_
      refine g_aload_n X dX3_byteAt_13 rfl 0 rfl ?_
      refine g_get X fl3_9 hNC_5 (shC_5 _) rfl dX3_byteAt_14 ?_
      refine g_alen X (t0 := 0) 160 hNC_13 (shC_13 _) rfl rfl dX3_byteAt_17 ?_
      refine g_icmp_ge X 30 dX3_byteAt_18 (by decide) (fun c => ?_) (fun c => ?_)
      · replace h := gTr c h
        refine g_iconst X (-1) dX3_byteAt_30 (by decide) ?_
        exact g_iretR X h dX3_byteAt_31
      · replace h := gF c h
        refine g_aload_n X dX3_byteAt_21 rfl 0 rfl ?_
        refine g_get X fl3_9 hNC_5 (shC_5 _) rfl dX3_byteAt_22 ?_
        refine g_iload_n X dX3_byteAt_25 rfl 1 rfl ?_
        obtain ⟨c, h⟩ := gGd h
        refine g_iald X hNC_13 (shC_13 _) rfl (gin_in c) dX3_byteAt_26 ?_
        refine g_goto X 31 dX3_byteAt_27 (by decide) ?_
        exact g_iretR X h dX3_byteAt_31

theorem mX3_byteAt {l : Launch} {D : va_G} {cA : Nat → ClassId} {r : Nat → Nat} {v : gV} {x1 : Int32} {xr : Int32} {v' : gV} (h : fX3_byteAt v x1 = some (xr, v')) : Ct l D (tysC cA) (shC cA r) 50 r (ZC r) yX3_byteAt cX3_byteAt 2 (some .int) rmX3_byteAt [.ref (r 5), .int x1] v (some (.int xr)) v' := ct_of plX3 ZC_ok (Nat.le_of_ble_eq_true rfl) rfl (fun _ X => bX3_byteAt_0 X v x1 h)

def rmX3_isBlank : Room := { frames := 0, cells := 0, slots := 0, locals := 0 }

set_option maxHeartbeats 4000000 in
set_option maxRecDepth 100000 in
theorem bX3_isBlank_12 {l : Launch} {D : va_G} {cA : Nat → ClassId} {r : Nat → Nat} {G : gG} {xr : Int32} {v' : gV} (X : XC l D cA r RX3 cX3_isBlank 1 (some .boolean) rmX3_isBlank (some (.int xr)) v' G) (v : gV)  (h : fX3_isBlank_12 v  = some (xr, v')) : G v [] 12 [] := by
  unfold fX3_isBlank_12 at h
  refine g_iconst X 1 dX3_isBlank_12 (by decide) ?_
  refine g_goto X 17 dX3_isBlank_13 (by decide) ?_
  exact g_zretR X (Or.inr rfl) h dX3_isBlank_17

set_option maxHeartbeats 4000000 in
set_option maxRecDepth 100000 in
theorem bX3_isBlank_0 {l : Launch} {D : va_G} {cA : Nat → ClassId} {r : Nat → Nat} {G : gG} {xr : Int32} {v' : gV} (X : XC l D cA r RX3 cX3_isBlank 1 (some .boolean) rmX3_isBlank (some (.int xr)) v' G) (v : gV) (x0 : Int32) (h : fX3_isBlank v x0 = some (xr, v')) : G v [(0, .int x0)] 0 [] := by
  unfold fX3_isBlank at h
  refine g_iload_n X dX3_isBlank_0 rfl 0 rfl ?_
  refine g_bipush X 32 dX3_isBlank_1 (by decide) ?_
  refine g_icmp_eq X 12 dX3_isBlank_3 (by decide) (fun c => ?_) (fun c => ?_)
  · replace h := gTr c h
    refine g_sub X [] (ls' := []) rfl ?_
    exact bX3_isBlank_12 X  _   h
  · replace h := gF c h
    refine g_iload_n X dX3_isBlank_6 rfl 0 rfl ?_
    refine g_bipush X 10 dX3_isBlank_7 (by decide) ?_
    refine g_icmp_ne X 16 dX3_isBlank_9 (by decide) (fun c => ?_) (fun c => ?_)
    · replace h := gF c h
      refine g_iconst X 0 dX3_isBlank_16 (by decide) ?_
      exact g_zretR X (Or.inl rfl) h dX3_isBlank_17
    · replace h := gTr c h
      refine g_sub X [] (ls' := []) rfl ?_
      exact bX3_isBlank_12 X  _   h

theorem mX3_isBlank {l : Launch} {D : va_G} {cA : Nat → ClassId} {r : Nat → Nat} {v : gV} {x0 : Int32} {xr : Int32} {v' : gV} (h : fX3_isBlank v x0 = some (xr, v')) : Ct l D (tysC cA) (shC cA r) 50 r (ZC r) yX3_isBlank cX3_isBlank 1 (some .boolean) rmX3_isBlank [.int x0] v (some (.int xr)) v' := ct_of plX3 ZC_ok (Nat.le_of_ble_eq_true rfl) rfl (fun _ X => bX3_isBlank_0 X v x0 h)

def rmX3_isDigit : Room := { frames := 0, cells := 0, slots := 0, locals := 0 }

set_option maxHeartbeats 4000000 in
set_option maxRecDepth 100000 in
theorem bX3_isDigit_0 {l : Launch} {D : va_G} {cA : Nat → ClassId} {r : Nat → Nat} {G : gG} {xr : Int32} {v' : gV} (X : XC l D cA r RX3 cX3_isDigit 1 (some .boolean) rmX3_isDigit (some (.int xr)) v' G) (v : gV) (x0 : Int32) (h : fX3_isDigit v x0 = some (xr, v')) : G v [(0, .int x0)] 0 [] := by
  unfold fX3_isDigit at h
  refine g_iload_n X dX3_isDigit_0 rfl 0 rfl ?_
  refine g_bipush X 48 dX3_isDigit_1 (by decide) ?_
  refine g_icmp_lt X 16 dX3_isDigit_3 (by decide) (fun c => ?_) (fun c => ?_)
  · replace h := gTr c h
    refine g_iconst X 0 dX3_isDigit_16 (by decide) ?_
    exact g_zretR X (Or.inl rfl) h dX3_isDigit_17
  · replace h := gF c h
    refine g_iload_n X dX3_isDigit_6 rfl 0 rfl ?_
    refine g_bipush X 57 dX3_isDigit_7 (by decide) ?_
    refine g_icmp_gt X 16 dX3_isDigit_9 (by decide) (fun c => ?_) (fun c => ?_)
    · replace h := gTr c h
      refine g_iconst X 0 dX3_isDigit_16 (by decide) ?_
      exact g_zretR X (Or.inl rfl) h dX3_isDigit_17
    · replace h := gF c h
      refine g_iconst X 1 dX3_isDigit_12 (by decide) ?_
      refine g_goto X 17 dX3_isDigit_13 (by decide) ?_
      exact g_zretR X (Or.inr rfl) h dX3_isDigit_17

theorem mX3_isDigit {l : Launch} {D : va_G} {cA : Nat → ClassId} {r : Nat → Nat} {v : gV} {x0 : Int32} {xr : Int32} {v' : gV} (h : fX3_isDigit v x0 = some (xr, v')) : Ct l D (tysC cA) (shC cA r) 50 r (ZC r) yX3_isDigit cX3_isDigit 1 (some .boolean) rmX3_isDigit [.int x0] v (some (.int xr)) v' := ct_of plX3 ZC_ok (Nat.le_of_ble_eq_true rfl) rfl (fun _ X => bX3_isDigit_0 X v x0 h)

def rmX3_isLetter : Room := { frames := 0, cells := 0, slots := 0, locals := 0 }

set_option maxHeartbeats 4000000 in
set_option maxRecDepth 100000 in
theorem bX3_isLetter_0 {l : Launch} {D : va_G} {cA : Nat → ClassId} {r : Nat → Nat} {G : gG} {xr : Int32} {v' : gV} (X : XC l D cA r RX3 cX3_isLetter 1 (some .boolean) rmX3_isLetter (some (.int xr)) v' G) (v : gV) (x0 : Int32) (h : fX3_isLetter v x0 = some (xr, v')) : G v [(0, .int x0)] 0 [] := by
  unfold fX3_isLetter at h
  refine g_iload_n X dX3_isLetter_0 rfl 0 rfl ?_
  refine g_bipush X 97 dX3_isLetter_1 (by decide) ?_
  refine g_icmp_lt X 16 dX3_isLetter_3 (by decide) (fun c => ?_) (fun c => ?_)
  · replace h := gTr c h
    refine g_iconst X 0 dX3_isLetter_16 (by decide) ?_
    exact g_zretR X (Or.inl rfl) h dX3_isLetter_17
  · replace h := gF c h
    refine g_iload_n X dX3_isLetter_6 rfl 0 rfl ?_
    refine g_bipush X 122 dX3_isLetter_7 (by decide) ?_
    refine g_icmp_gt X 16 dX3_isLetter_9 (by decide) (fun c => ?_) (fun c => ?_)
    · replace h := gTr c h
      refine g_iconst X 0 dX3_isLetter_16 (by decide) ?_
      exact g_zretR X (Or.inl rfl) h dX3_isLetter_17
    · replace h := gF c h
      refine g_iconst X 1 dX3_isLetter_12 (by decide) ?_
      refine g_goto X 17 dX3_isLetter_13 (by decide) ?_
      exact g_zretR X (Or.inr rfl) h dX3_isLetter_17

theorem mX3_isLetter {l : Launch} {D : va_G} {cA : Nat → ClassId} {r : Nat → Nat} {v : gV} {x0 : Int32} {xr : Int32} {v' : gV} (h : fX3_isLetter v x0 = some (xr, v')) : Ct l D (tysC cA) (shC cA r) 50 r (ZC r) yX3_isLetter cX3_isLetter 1 (some .boolean) rmX3_isLetter [.int x0] v (some (.int xr)) v' := ct_of plX3 ZC_ok (Nat.le_of_ble_eq_true rfl) rfl (fun _ X => bX3_isLetter_0 X v x0 h)

def rmX3_isSign : Room := { frames := 0, cells := 0, slots := 0, locals := 0 }

set_option maxHeartbeats 4000000 in
set_option maxRecDepth 100000 in
theorem bX3_isSign_48 {l : Launch} {D : va_G} {cA : Nat → ClassId} {r : Nat → Nat} {G : gG} {xr : Int32} {v' : gV} (X : XC l D cA r RX3 cX3_isSign 1 (some .boolean) rmX3_isSign (some (.int xr)) v' G) (v : gV)  (h : fX3_isSign_48 v  = some (xr, v')) : G v [] 48 [] := by
  unfold fX3_isSign_48 at h
  refine g_iconst X 1 dX3_isSign_48 (by decide) ?_
  refine g_goto X 53 dX3_isSign_49 (by decide) ?_
  exact g_zretR X (Or.inr rfl) h dX3_isSign_53

set_option maxHeartbeats 4000000 in
set_option maxRecDepth 100000 in
theorem bX3_isSign_0 {l : Launch} {D : va_G} {cA : Nat → ClassId} {r : Nat → Nat} {G : gG} {xr : Int32} {v' : gV} (X : XC l D cA r RX3 cX3_isSign 1 (some .boolean) rmX3_isSign (some (.int xr)) v' G) (v : gV) (x0 : Int32) (h : fX3_isSign v x0 = some (xr, v')) : G v [(0, .int x0)] 0 [] := by
  unfold fX3_isSign at h
  refine g_iload_n X dX3_isSign_0 rfl 0 rfl ?_
  refine g_bipush X 40 dX3_isSign_1 (by decide) ?_
  refine g_icmp_eq X 48 dX3_isSign_3 (by decide) (fun c => ?_) (fun c => ?_)
  · replace h := gTr c h
    refine g_sub X [] (ls' := []) rfl ?_
    exact bX3_isSign_48 X  _   h
  · replace h := gF c h
    refine g_iload_n X dX3_isSign_6 rfl 0 rfl ?_
    refine g_bipush X 41 dX3_isSign_7 (by decide) ?_
    refine g_icmp_eq X 48 dX3_isSign_9 (by decide) (fun c => ?_) (fun c => ?_)
    · replace h := gTr c h
      refine g_sub X [] (ls' := []) rfl ?_
      exact bX3_isSign_48 X  _   h
    · replace h := gF c h
      refine g_iload_n X dX3_isSign_12 rfl 0 rfl ?_
      refine g_bipush X 59 dX3_isSign_13 (by decide) ?_
      refine g_icmp_eq X 48 dX3_isSign_15 (by decide) (fun c => ?_) (fun c => ?_)
      · replace h := gTr c h
        refine g_sub X [] (ls' := []) rfl ?_
        exact bX3_isSign_48 X  _   h
      · replace h := gF c h
        refine g_iload_n X dX3_isSign_18 rfl 0 rfl ?_
        refine g_bipush X 43 dX3_isSign_19 (by decide) ?_
        refine g_icmp_eq X 48 dX3_isSign_21 (by decide) (fun c => ?_) (fun c => ?_)
        · replace h := gTr c h
          refine g_sub X [] (ls' := []) rfl ?_
          exact bX3_isSign_48 X  _   h
        · replace h := gF c h
          refine g_iload_n X dX3_isSign_24 rfl 0 rfl ?_
          refine g_bipush X 45 dX3_isSign_25 (by decide) ?_
          refine g_icmp_eq X 48 dX3_isSign_27 (by decide) (fun c => ?_) (fun c => ?_)
          · replace h := gTr c h
            refine g_sub X [] (ls' := []) rfl ?_
            exact bX3_isSign_48 X  _   h
          · replace h := gF c h
            refine g_iload_n X dX3_isSign_30 rfl 0 rfl ?_
            refine g_bipush X 42 dX3_isSign_31 (by decide) ?_
            refine g_icmp_eq X 48 dX3_isSign_33 (by decide) (fun c => ?_) (fun c => ?_)
            · replace h := gTr c h
              refine g_sub X [] (ls' := []) rfl ?_
              exact bX3_isSign_48 X  _   h
            · replace h := gF c h
              refine g_iload_n X dX3_isSign_36 rfl 0 rfl ?_
              refine g_bipush X 60 dX3_isSign_37 (by decide) ?_
              refine g_icmp_eq X 48 dX3_isSign_39 (by decide) (fun c => ?_) (fun c => ?_)
              · replace h := gTr c h
                refine g_sub X [] (ls' := []) rfl ?_
                exact bX3_isSign_48 X  _   h
              · replace h := gF c h
                refine g_iload_n X dX3_isSign_42 rfl 0 rfl ?_
                refine g_bipush X 61 dX3_isSign_43 (by decide) ?_
                refine g_icmp_ne X 52 dX3_isSign_45 (by decide) (fun c => ?_) (fun c => ?_)
                · replace h := gF c h
                  refine g_iconst X 0 dX3_isSign_52 (by decide) ?_
                  exact g_zretR X (Or.inl rfl) h dX3_isSign_53
                · replace h := gTr c h
                  refine g_sub X [] (ls' := []) rfl ?_
                  exact bX3_isSign_48 X  _   h

theorem mX3_isSign {l : Launch} {D : va_G} {cA : Nat → ClassId} {r : Nat → Nat} {v : gV} {x0 : Int32} {xr : Int32} {v' : gV} (h : fX3_isSign v x0 = some (xr, v')) : Ct l D (tysC cA) (shC cA r) 50 r (ZC r) yX3_isSign cX3_isSign 1 (some .boolean) rmX3_isSign [.int x0] v (some (.int xr)) v' := ct_of plX3 ZC_ok (Nat.le_of_ble_eq_true rfl) rfl (fun _ X => bX3_isSign_0 X v x0 h)

def rmX3_stepOverNumber : Room := { frames := 1, cells := 0, slots := 0, locals := 21 }

set_option maxHeartbeats 4000000 in
set_option maxRecDepth 100000 in
theorem bX3_stepOverNumber_67 {l : Launch} {D : va_G} {cA : Nat → ClassId} {r : Nat → Nat} {G : gG} {xr : Unit} {v' : gV} (X : XC l D cA r RX3 cX3_stepOverNumber 2 none rmX3_stepOverNumber none v' G) (v : gV)  (h : fX3_stepOverNumber_67 v  = some (xr, v')) : G v [(0, .ref (r 5))] 67 [] := by
  unfold fX3_stepOverNumber_67 at h
  refine g_aload_n X dX3_stepOverNumber_67 rfl 0 rfl ?_
  refine g_aload_n X dX3_stepOverNumber_68 rfl 0 rfl ?_
  refine g_get X fl3_26 hNC_5 (shC_5 _) rfl dX3_stepOverNumber_69 ?_
  refine g_aload_n X dX3_stepOverNumber_72 rfl 0 rfl ?_
  refine g_get X fl3_35 hNC_5 (shC_5 _) rfl dX3_stepOverNumber_73 ?_
  refine g_isub X dX3_stepOverNumber_76 ?_
  refine g_iconst X 4 dX3_stepOverNumber_77 (by decide) ?_
  refine g_icmp_le X 85 dX3_stepOverNumber_78 (by decide) (fun c => ?_) (fun c => ?_)
  · replace h := gTr c h
    refine g_iconst X 2 dX3_stepOverNumber_85 (by decide) ?_
    refine g_put X (fsC3 r) fp3_32 hNC_5 (shC_5) (fun _ => rfl) (Nat.le_of_ble_eq_true rfl) dX3_stepOverNumber_86 ?_
    exact g_vretR X h dX3_stepOverNumber_89
  · replace h := gF c h
    refine g_iconst X 1 dX3_stepOverNumber_81 (by decide) ?_
    refine g_goto X 86 dX3_stepOverNumber_82 (by decide) ?_
    refine g_put X (fsC3 r) fp3_32 hNC_5 (shC_5) (fun _ => rfl) (Nat.le_of_ble_eq_true rfl) dX3_stepOverNumber_86 ?_
    exact g_vretR X h dX3_stepOverNumber_89

set_option maxHeartbeats 4000000 in
set_option maxRecDepth 100000 in
theorem bX3_stepOverNumber_7 {l : Launch} {D : va_G} {cA : Nat → ClassId} {r : Nat → Nat} {G : gG} {xr : Unit} {v' : gV} (X : XC l D cA r RX3 cX3_stepOverNumber 2 none rmX3_stepOverNumber none v' G) : ∀ (n : Nat) (v : gV) (x1 : Int32), fX3_stepOverNumber_7 n v x1 = some (xr, v') → G v [(0, .ref (r 5)), (1, .int x1)] 7 [] := by
  intro n
  induction n with
  | zero => intro v x1 h; rw [fX3_stepOverNumber_7] at h; cases h
  | succ n ih =>
    intro v x1 h
    rw [fX3_stepOverNumber_7] at h
    refine g_iload_n X dX3_stepOverNumber_7 rfl 1 rfl ?_
    refine g_sipush X 160 dX3_stepOverNumber_8 (by decide) ?_
    refine g_icmp_ge X 67 dX3_stepOverNumber_11 (by decide) (fun c => ?_) (fun c => ?_)
    · replace h := gTr c h
      refine g_sub X [0] (ls' := [(0, .ref (r 5))]) rfl ?_
      exact bX3_stepOverNumber_67 X  _   h
    · replace h := gF c h
      refine g_aload_n X dX3_stepOverNumber_14 rfl 0 rfl ?_
      refine g_aload_n X dX3_stepOverNumber_15 rfl 0 rfl ?_
      refine g_get X fl3_26 hNC_5 (shC_5 _) rfl dX3_stepOverNumber_16 ?_
      obtain ⟨y1, v2, hc3, h⟩ := gB_inv h
      refine g_callV X (st := []) (st' := [.int y1]) kcX3_byteAt kvX3_byteAt kl3_73 (⟨rfl, rfl, by decide, by decide⟩) (mX3_byteAt hc3) hNC_5 (shC_5 _) rfl rfl rfl (Nat.le_of_ble_eq_true rfl) rfl dX3_stepOverNumber_19 ?_
      obtain ⟨y4, v5, hc6, h⟩ := gB_inv h
      refine g_callS X (st := []) (st' := [.int y4]) kcX3_isDigit ktX3_isDigit kl3_86 (⟨rfl, rfl, by decide, by decide⟩) (mX3_isDigit hc6) rfl rfl (Nat.le_of_ble_eq_true rfl) rfl dX3_stepOverNumber_22 ?_
      refine g_if_eq X 67 dX3_stepOverNumber_25 (by decide) (fun c => ?_) (fun c => ?_)
      · replace h := gTr c h
        refine g_sub X [0] (ls' := [(0, .ref (r 5))]) rfl ?_
        exact bX3_stepOverNumber_67 X  _   h
      · replace h := gF c h
        refine g_aload_n X dX3_stepOverNumber_28 rfl 0 rfl ?_
        refine g_aload_n X dX3_stepOverNumber_29 rfl 0 rfl ?_
        refine g_get X fl3_64 hNC_5 (shC_5 _) rfl dX3_stepOverNumber_30 ?_
        refine g_bipush X 10 dX3_stepOverNumber_33 (by decide) ?_
        refine g_imul X dX3_stepOverNumber_35 ?_
        refine g_aload_n X dX3_stepOverNumber_36 rfl 0 rfl ?_
        refine g_aload_n X dX3_stepOverNumber_37 rfl 0 rfl ?_
        refine g_get X fl3_26 hNC_5 (shC_5 _) rfl dX3_stepOverNumber_38 ?_
        obtain ⟨y7, v8, hc9, h⟩ := gB_inv h
        refine g_callV X (st := [.int ((v5 5 5) * 10), .ref (r 5)]) (st' := [.int y7, .int ((v5 5 5) * 10), .ref (r 5)]) kcX3_byteAt kvX3_byteAt kl3_73 (⟨rfl, rfl, by decide, by decide⟩) (mX3_byteAt hc9) hNC_5 (shC_5 _) rfl rfl rfl (Nat.le_of_ble_eq_true rfl) rfl dX3_stepOverNumber_41 ?_
        refine g_iadd X dX3_stepOverNumber_44 ?_
        refine g_bipush X 48 dX3_stepOverNumber_45 (by decide) ?_
        refine g_isub X dX3_stepOverNumber_47 ?_
        refine g_put X (fsC3 r) fp3_64 hNC_5 (shC_5) (fun _ => rfl) (Nat.le_of_ble_eq_true rfl) dX3_stepOverNumber_48 ?_
        refine g_aload_n X dX3_stepOverNumber_51 rfl 0 rfl ?_
        refine g_dup X dX3_stepOverNumber_52 rfl ?_
        refine g_get X fl3_26 hNC_5 (shC_5 _) rfl dX3_stepOverNumber_53 ?_
        refine g_iconst X 1 dX3_stepOverNumber_56 (by decide) ?_
        refine g_iadd X dX3_stepOverNumber_57 ?_
        refine g_put X (fsC3 r) fp3_26 hNC_5 (shC_5) (fun _ => rfl) (Nat.le_of_ble_eq_true rfl) dX3_stepOverNumber_58 ?_
        refine g_iinc X (x1 + 1) [(1, .int (x1 + 1)), (0, .ref (r 5))] dX3_stepOverNumber_61 1 rfl rfl (by decide) rfl ?_
        refine g_goto X 7 dX3_stepOverNumber_64 (by decide) ?_
        refine g_sub X [1, 0] (ls' := [(0, .ref (r 5)), (1, .int (x1 + 1))]) rfl ?_
        exact ih _ _  h

set_option maxHeartbeats 4000000 in
set_option maxRecDepth 100000 in
theorem bX3_stepOverNumber_0 {l : Launch} {D : va_G} {cA : Nat → ClassId} {r : Nat → Nat} {G : gG} {xr : Unit} {v' : gV} (X : XC l D cA r RX3 cX3_stepOverNumber 2 none rmX3_stepOverNumber none v' G) (v : gV)  (h : fX3_stepOverNumber v  = some (xr, v')) : G v [(0, .ref (r 5))] 0 [] := by
  unfold fX3_stepOverNumber at h
  refine g_aload_n X dX3_stepOverNumber_0 rfl 0 rfl ?_
  refine g_iconst X 0 dX3_stepOverNumber_1 (by decide) ?_
  refine g_put X (fsC3 r) fp3_64 hNC_5 (shC_5) (fun _ => rfl) (Nat.le_of_ble_eq_true rfl) dX3_stepOverNumber_2 ?_
  refine g_iconst X 0 dX3_stepOverNumber_5 (by decide) ?_
  refine g_istore_n X (ls' := [(1, .int 0), (0, .ref (r 5))]) dX3_stepOverNumber_6 rfl (by decide) rfl ?_
  refine g_sub X [1, 0] (ls' := [(0, .ref (r 5)), (1, .int 0)]) rfl ?_
  exact bX3_stepOverNumber_7 X  _ _ _  h

theorem mX3_stepOverNumber {l : Launch} {D : va_G} {cA : Nat → ClassId} {r : Nat → Nat} {v : gV}  {xr : Unit} {v' : gV} (h : fX3_stepOverNumber v  = some (xr, v')) : Ct l D (tysC cA) (shC cA r) 50 r (ZC r) yX3_stepOverNumber cX3_stepOverNumber 2 none rmX3_stepOverNumber [.ref (r 5)] v none v' := ct_of plX3 ZC_ok (Nat.le_of_ble_eq_true rfl) rfl (fun _ X => bX3_stepOverNumber_0 X v  h)

def rmX3_isSpelled : Room := { frames := 5, cells := 0, slots := 0, locals := 200 }

set_option maxHeartbeats 4000000 in
set_option maxRecDepth 100000 in
theorem bX3_isSpelled_20 {l : Launch} {D : va_G} {cA : Nat → ClassId} {r : Nat → Nat} {G : gG} {xr : Int32} {v' : gV} (X : XC l D cA r RX3 cX3_isSpelled 3 (some .boolean) rmX3_isSpelled (some (.int xr)) v' G) : ∀ (n : Nat) (v : gV) (wx1 : Nat) (x2 : Int32), wx1 < 12 → fX3_isSpelled_20 n v wx1 x2 = some (xr, v') → G v [(0, .ref (r 5)), (1, .ref (r (100 + wx1))), (2, .int x2)] 20 [] := by
  intro n
  induction n with
  | zero => intro v wx1 x2 hwx1 h; rw [fX3_isSpelled_20] at h; cases h
  | succ n ih =>
    intro v wx1 x2 hwx1 h
    rw [fX3_isSpelled_20] at h
    refine g_iload_n X dX3_isSpelled_20 rfl 2 rfl ?_
    refine g_aload_n X dX3_isSpelled_21 rfl 1 rfl ?_
    refine g_strlen X (st := [.int x2]) hwx1 (by decide) (Nat.le_of_ble_eq_true rfl) dX3_isSpelled_22 ?_
    refine g_icmp_ge X 54 dX3_isSpelled_25 (by decide) (fun c => ?_) (fun c => ?_)
    · replace h := gTr c h
      refine g_iconst X 1 dX3_isSpelled_54 (by decide) ?_
      exact g_zretR X (Or.inr rfl) h dX3_isSpelled_55
    · replace h := gF c h
      refine g_aload_n X dX3_isSpelled_28 rfl 1 rfl ?_
      refine g_iload_n X dX3_isSpelled_29 rfl 2 rfl ?_
      obtain ⟨c, h⟩ := gGd h
      refine g_charAt X (st := []) hwx1 c (by decide) (Nat.le_of_ble_eq_true rfl) dX3_isSpelled_30 ?_
      refine g_aload_n X dX3_isSpelled_33 rfl 0 rfl ?_
      refine g_aload_n X dX3_isSpelled_34 rfl 0 rfl ?_
      refine g_get X fl3_35 hNC_5 (shC_5 _) rfl dX3_isSpelled_35 ?_
      refine g_iload_n X dX3_isSpelled_38 rfl 2 rfl ?_
      refine g_iadd X dX3_isSpelled_39 ?_
      obtain ⟨y1, v2, hc3, h⟩ := gB_inv h
      refine g_callV X (st := [.int (gwc wx1 x2.toNatClampNeg)]) (st' := [.int y1, .int (gwc wx1 x2.toNatClampNeg)]) kcX3_byteAt kvX3_byteAt kl3_73 (⟨rfl, rfl, by decide, by decide⟩) (mX3_byteAt hc3) hNC_5 (shC_5 _) rfl rfl rfl (Nat.le_of_ble_eq_true rfl) rfl dX3_isSpelled_40 ?_
      refine g_icmp_eq X 48 dX3_isSpelled_43 (by decide) (fun c => ?_) (fun c => ?_)
      · replace h := gTr c h
        refine g_iinc X (x2 + 1) [(2, .int (x2 + 1)), (0, .ref (r 5)), (1, .ref (r (100 + wx1)))] dX3_isSpelled_48 2 rfl rfl (by decide) rfl ?_
        refine g_goto X 20 dX3_isSpelled_51 (by decide) ?_
        refine g_sub X [1, 2, 0] (ls' := [(0, .ref (r 5)), (1, .ref (r (100 + wx1))), (2, .int (x2 + 1))]) rfl ?_
        exact ih _ _ _ hwx1 h
      · replace h := gF c h
        refine g_iconst X 0 dX3_isSpelled_46 (by decide) ?_
        exact g_zretR X (Or.inl rfl) h dX3_isSpelled_47

set_option maxHeartbeats 4000000 in
set_option maxRecDepth 100000 in
theorem bX3_isSpelled_0 {l : Launch} {D : va_G} {cA : Nat → ClassId} {r : Nat → Nat} {G : gG} {xr : Int32} {v' : gV} (X : XC l D cA r RX3 cX3_isSpelled 3 (some .boolean) rmX3_isSpelled (some (.int xr)) v' G) (v : gV) (w1 : Nat) (hw1 : w1 < 12) (h : fX3_isSpelled v w1 = some (xr, v')) : G v [(0, .ref (r 5)), (1, .ref (r (100 + w1)))] 0 [] := by
  unfold fX3_isSpelled at h
  refine g_aload_n X dX3_isSpelled_0 rfl 1 rfl ?_
  refine g_strlen X (st := []) hw1 (by decide) (Nat.le_of_ble_eq_true rfl) dX3_isSpelled_1 ?_
  refine g_aload_n X dX3_isSpelled_4 rfl 0 rfl ?_
  refine g_get X fl3_26 hNC_5 (shC_5 _) rfl dX3_isSpelled_5 ?_
  refine g_aload_n X dX3_isSpelled_8 rfl 0 rfl ?_
  refine g_get X fl3_35 hNC_5 (shC_5 _) rfl dX3_isSpelled_9 ?_
  refine g_isub X dX3_isSpelled_12 ?_
  refine g_icmp_eq X 18 dX3_isSpelled_13 (by decide) (fun c => ?_) (fun c => ?_)
  · replace h := gTr c h
    refine g_iconst X 0 dX3_isSpelled_18 (by decide) ?_
    refine g_istore_n X (ls' := [(2, .int 0), (0, .ref (r 5)), (1, .ref (r (100 + w1)))]) dX3_isSpelled_19 rfl (by decide) rfl ?_
    refine g_sub X [1, 2, 0] (ls' := [(0, .ref (r 5)), (1, .ref (r (100 + w1))), (2, .int 0)]) rfl ?_
    exact bX3_isSpelled_20 X  _ _ _ _ hw1 h
  · replace h := gF c h
    refine g_iconst X 0 dX3_isSpelled_16 (by decide) ?_
    exact g_zretR X (Or.inl rfl) h dX3_isSpelled_17

theorem mX3_isSpelled {l : Launch} {D : va_G} {cA : Nat → ClassId} {r : Nat → Nat} {v : gV} {w1 : Nat} {xr : Int32} {v' : gV} (hw1 : w1 < 12) (h : fX3_isSpelled v w1 = some (xr, v')) : Ct l D (tysC cA) (shC cA r) 50 r (ZC r) yX3_isSpelled cX3_isSpelled 3 (some .boolean) rmX3_isSpelled [.ref (r 5), .ref (r (100 + w1))] v (some (.int xr)) v' := ct_of plX3 ZC_ok (Nat.le_of_ble_eq_true rfl) rfl (fun _ X => bX3_isSpelled_0 X v w1 hw1 h)

def rmX3_spelling : Room := { frames := 0, cells := 0, slots := 0, locals := 0 }

set_option maxHeartbeats 4000000 in
set_option maxRecDepth 100000 in
theorem bX3_spelling_0 {l : Launch} {D : va_G} {cA : Nat → ClassId} {r : Nat → Nat} {G : gG} {xr : Nat} {v' : gV} (X : XC l D cA r RX3 cX3_spelling 1 (some (.object "java/lang/String")) rmX3_spelling (some (.ref (r (100 + xr)))) v' G) (v : gV) (x0 : Int32) (h : fX3_spelling v x0 = some (xr, v')) : G v [(0, .int x0)] 0 [] := by
  unfold fX3_spelling at h
  refine g_iload_n X dX3_spelling_0 rfl 0 rfl ?_
  by_cases c : x0 = 0
  · replace h := gTr c h
    refine g_tableIn X 60 dX3_spelling_1 (by rw [c]; decide) (by rw [c]; decide) (by rw [c]; rfl) (by decide) ?_
    refine g_ldcS X (i := 0) (by decide) dX3_spelling_60 ?_
    exact g_aretT X h dX3_spelling_62
  · replace h := gF c h
    have n0 : (x0).toInt ≠ 0 := fun q => c (Int32.toInt_inj.mp (q.trans (by decide)))
    clear c
    by_cases c : x0 = 1
    · replace h := gTr c h
      refine g_tableIn X 63 dX3_spelling_1 (by rw [c]; decide) (by rw [c]; decide) (by rw [c]; rfl) (by decide) ?_
      refine g_ldcS X (i := 1) (by decide) dX3_spelling_63 ?_
      exact g_aretT X h dX3_spelling_65
    · replace h := gF c h
      have n1 : (x0).toInt ≠ 1 := fun q => c (Int32.toInt_inj.mp (q.trans (by decide)))
      clear c
      by_cases c : x0 = 2
      · replace h := gTr c h
        refine g_tableIn X 66 dX3_spelling_1 (by rw [c]; decide) (by rw [c]; decide) (by rw [c]; rfl) (by decide) ?_
        refine g_ldcS X (i := 2) (by decide) dX3_spelling_66 ?_
        exact g_aretT X h dX3_spelling_68
      · replace h := gF c h
        have n2 : (x0).toInt ≠ 2 := fun q => c (Int32.toInt_inj.mp (q.trans (by decide)))
        clear c
        by_cases c : x0 = 3
        · replace h := gTr c h
          refine g_tableIn X 69 dX3_spelling_1 (by rw [c]; decide) (by rw [c]; decide) (by rw [c]; rfl) (by decide) ?_
          refine g_ldcS X (i := 3) (by decide) dX3_spelling_69 ?_
          exact g_aretT X h dX3_spelling_71
        · replace h := gF c h
          have n3 : (x0).toInt ≠ 3 := fun q => c (Int32.toInt_inj.mp (q.trans (by decide)))
          clear c
          by_cases c : x0 = 4
          · replace h := gTr c h
            refine g_tableIn X 72 dX3_spelling_1 (by rw [c]; decide) (by rw [c]; decide) (by rw [c]; rfl) (by decide) ?_
            refine g_ldcS X (i := 4) (by decide) dX3_spelling_72 ?_
            exact g_aretT X h dX3_spelling_74
          · replace h := gF c h
            have n4 : (x0).toInt ≠ 4 := fun q => c (Int32.toInt_inj.mp (q.trans (by decide)))
            clear c
            by_cases c : x0 = 5
            · replace h := gTr c h
              refine g_tableIn X 75 dX3_spelling_1 (by rw [c]; decide) (by rw [c]; decide) (by rw [c]; rfl) (by decide) ?_
              refine g_ldcS X (i := 5) (by decide) dX3_spelling_75 ?_
              exact g_aretT X h dX3_spelling_77
            · replace h := gF c h
              have n5 : (x0).toInt ≠ 5 := fun q => c (Int32.toInt_inj.mp (q.trans (by decide)))
              clear c
              by_cases c : x0 = 6
              · replace h := gTr c h
                refine g_tableIn X 78 dX3_spelling_1 (by rw [c]; decide) (by rw [c]; decide) (by rw [c]; rfl) (by decide) ?_
                refine g_ldcS X (i := 6) (by decide) dX3_spelling_78 ?_
                exact g_aretT X h dX3_spelling_80
              · replace h := gF c h
                have n6 : (x0).toInt ≠ 6 := fun q => c (Int32.toInt_inj.mp (q.trans (by decide)))
                clear c
                by_cases c : x0 = 7
                · replace h := gTr c h
                  refine g_tableIn X 81 dX3_spelling_1 (by rw [c]; decide) (by rw [c]; decide) (by rw [c]; rfl) (by decide) ?_
                  refine g_ldcS X (i := 7) (by decide) dX3_spelling_81 ?_
                  exact g_aretT X h dX3_spelling_83
                · replace h := gF c h
                  have n7 : (x0).toInt ≠ 7 := fun q => c (Int32.toInt_inj.mp (q.trans (by decide)))
                  clear c
                  by_cases c : x0 = 8
                  · replace h := gTr c h
                    refine g_tableIn X 84 dX3_spelling_1 (by rw [c]; decide) (by rw [c]; decide) (by rw [c]; rfl) (by decide) ?_
                    refine g_ldcS X (i := 8) (by decide) dX3_spelling_84 ?_
                    exact g_aretT X h dX3_spelling_86
                  · replace h := gF c h
                    have n8 : (x0).toInt ≠ 8 := fun q => c (Int32.toInt_inj.mp (q.trans (by decide)))
                    clear c
                    by_cases c : x0 = 9
                    · replace h := gTr c h
                      refine g_tableIn X 87 dX3_spelling_1 (by rw [c]; decide) (by rw [c]; decide) (by rw [c]; rfl) (by decide) ?_
                      refine g_ldcS X (i := 9) (by decide) dX3_spelling_87 ?_
                      exact g_aretT X h dX3_spelling_89
                    · replace h := gF c h
                      have n9 : (x0).toInt ≠ 9 := fun q => c (Int32.toInt_inj.mp (q.trans (by decide)))
                      clear c
                      by_cases c : x0 = 10
                      · replace h := gTr c h
                        refine g_tableIn X 90 dX3_spelling_1 (by rw [c]; decide) (by rw [c]; decide) (by rw [c]; rfl) (by decide) ?_
                        refine g_ldcS X (i := 10) (by decide) dX3_spelling_90 ?_
                        exact g_aretT X h dX3_spelling_92
                      · replace h := gF c h
                        have n10 : (x0).toInt ≠ 10 := fun q => c (Int32.toInt_inj.mp (q.trans (by decide)))
                        clear c
                        refine g_tableOut X 93 dX3_spelling_1 (by omega) (by decide) ?_
                        refine g_ldcS X (i := 11) (by decide) dX3_spelling_93 ?_
                        exact g_aretT X h dX3_spelling_95

theorem mX3_spelling {l : Launch} {D : va_G} {cA : Nat → ClassId} {r : Nat → Nat} {v : gV} {x0 : Int32} {xr : Nat} {v' : gV} (h : fX3_spelling v x0 = some (xr, v')) : Ct l D (tysC cA) (shC cA r) 50 r (ZC r) yX3_spelling cX3_spelling 1 (some (.object "java/lang/String")) rmX3_spelling [.int x0] v (some (.ref (r (100 + xr)))) v' := ct_of plX3 ZC_ok (Nat.le_of_ble_eq_true rfl) rfl (fun _ X => bX3_spelling_0 X v x0 h)

def rmX3_stepOverWord : Room := { frames := 6, cells := 0, slots := 0, locals := 222 }

set_option maxHeartbeats 4000000 in
set_option maxRecDepth 100000 in
theorem bX3_stepOverWord_72 {l : Launch} {D : va_G} {cA : Nat → ClassId} {r : Nat → Nat} {G : gG} {xr : Unit} {v' : gV} {k46 : gV → Int32 → Option (Unit × gV)} (X : XC l D cA r RX3 cX3_stepOverWord 2 none rmX3_stepOverWord none v' G) (K46 : ∀ (v : gV) (x1 : Int32), k46 v x1 = some (xr, v') → G v [(0, .ref (r 5)), (1, .int x1)] 46 []) (v : gV) (x1 : Int32) (h : fX3_stepOverWord_72 k46 v x1 = some (xr, v')) : G v [(0, .ref (r 5)), (1, .int x1)] 72 [] := by
  unfold fX3_stepOverWord_72 at h
  refine g_iinc X (x1 + 1) [(1, .int (x1 + 1)), (0, .ref (r 5))] dX3_stepOverWord_72 1 rfl rfl (by decide) rfl ?_
  refine g_goto X 46 dX3_stepOverWord_75 (by decide) ?_
  refine g_sub X [1, 0] (ls' := [(0, .ref (r 5)), (1, .int (x1 + 1))]) rfl ?_
  exact K46 _ _  h

set_option maxHeartbeats 4000000 in
set_option maxRecDepth 100000 in
theorem bX3_stepOverWord_46 {l : Launch} {D : va_G} {cA : Nat → ClassId} {r : Nat → Nat} {G : gG} {xr : Unit} {v' : gV} (X : XC l D cA r RX3 cX3_stepOverWord 2 none rmX3_stepOverWord none v' G) : ∀ (n : Nat) (v : gV) (x1 : Int32), fX3_stepOverWord_46 n v x1 = some (xr, v') → G v [(0, .ref (r 5)), (1, .int x1)] 46 [] := by
  intro n
  induction n with
  | zero => intro v x1 h; rw [fX3_stepOverWord_46] at h; cases h
  | succ n ih =>
    intro v x1 h
    rw [fX3_stepOverWord_46] at h
    refine g_iload_n X dX3_stepOverWord_46 rfl 1 rfl ?_
    refine g_bipush X 12 dX3_stepOverWord_47 (by decide) ?_
    refine g_icmp_ge X 78 dX3_stepOverWord_49 (by decide) (fun c => ?_) (fun c => ?_)
    · replace h := gTr c h
      exact g_vretR X h dX3_stepOverWord_78
    · replace h := gF c h
      refine g_aload_n X dX3_stepOverWord_52 rfl 0 rfl ?_
      refine g_iload_n X dX3_stepOverWord_53 rfl 1 rfl ?_
      obtain ⟨y7, v8, hc9, h⟩ := gB_inv h
      refine g_callS X (st := [.ref (r 5)]) (st' := [.ref (r (100 + y7)), .ref (r 5)]) kcX3_spelling ktX3_spelling kl3_95 (⟨rfl, rfl, by decide, by decide⟩) (mX3_spelling hc9) rfl rfl (Nat.le_of_ble_eq_true rfl) rfl dX3_stepOverWord_54 ?_
      obtain ⟨c10, h⟩ := gGd h
      obtain ⟨y11, v12, hc13, h⟩ := gB_inv h
      refine g_callV X (st := []) (st' := [.int y11]) kcX3_isSpelled kvX3_isSpelled kl3_99 (⟨rfl, rfl, by decide, by decide⟩) (mX3_isSpelled c10 hc13) hNC_5 (shC_5 _) rfl rfl rfl (Nat.le_of_ble_eq_true rfl) rfl dX3_stepOverWord_57 ?_
      refine g_if_eq X 72 dX3_stepOverWord_60 (by decide) (fun c => ?_) (fun c => ?_)
      · replace h := gTr c h
        exact bX3_stepOverWord_72 X ih _ _  h
      · replace h := gF c h
        refine g_aload_n X dX3_stepOverWord_63 rfl 0 rfl ?_
        refine g_sipush X 300 dX3_stepOverWord_64 (by decide) ?_
        refine g_iload_n X dX3_stepOverWord_67 rfl 1 rfl ?_
        refine g_iadd X dX3_stepOverWord_68 ?_
        refine g_put X (fsC3 r) fp3_32 hNC_5 (shC_5) (fun _ => rfl) (Nat.le_of_ble_eq_true rfl) dX3_stepOverWord_69 ?_
        exact bX3_stepOverWord_72 X ih _ _  h

set_option maxHeartbeats 4000000 in
set_option maxRecDepth 100000 in
theorem bX3_stepOverWord_39 {l : Launch} {D : va_G} {cA : Nat → ClassId} {r : Nat → Nat} {G : gG} {xr : Unit} {v' : gV} (X : XC l D cA r RX3 cX3_stepOverWord 2 none rmX3_stepOverWord none v' G) (v : gV)  (h : fX3_stepOverWord_39 v  = some (xr, v')) : G v [(0, .ref (r 5))] 39 [] := by
  unfold fX3_stepOverWord_39 at h
  refine g_aload_n X dX3_stepOverWord_39 rfl 0 rfl ?_
  refine g_iconst X 1 dX3_stepOverWord_40 (by decide) ?_
  refine g_put X (fsC3 r) fp3_32 hNC_5 (shC_5) (fun _ => rfl) (Nat.le_of_ble_eq_true rfl) dX3_stepOverWord_41 ?_
  refine g_iconst X 0 dX3_stepOverWord_44 (by decide) ?_
  refine g_istore_n X (ls' := [(1, .int 0), (0, .ref (r 5))]) dX3_stepOverWord_45 rfl (by decide) rfl ?_
  refine g_sub X [1, 0] (ls' := [(0, .ref (r 5)), (1, .int 0)]) rfl ?_
  exact bX3_stepOverWord_46 X  _ _ _  h

set_option maxHeartbeats 4000000 in
set_option maxRecDepth 100000 in
theorem bX3_stepOverWord_2 {l : Launch} {D : va_G} {cA : Nat → ClassId} {r : Nat → Nat} {G : gG} {xr : Unit} {v' : gV} (X : XC l D cA r RX3 cX3_stepOverWord 2 none rmX3_stepOverWord none v' G) : ∀ (n : Nat) (v : gV) (x1 : Int32), fX3_stepOverWord_2 n v x1 = some (xr, v') → G v [(0, .ref (r 5)), (1, .int x1)] 2 [] := by
  intro n
  induction n with
  | zero => intro v x1 h; rw [fX3_stepOverWord_2] at h; cases h
  | succ n ih =>
    intro v x1 h
    rw [fX3_stepOverWord_2] at h
    refine g_iload_n X dX3_stepOverWord_2 rfl 1 rfl ?_
    refine g_sipush X 160 dX3_stepOverWord_3 (by decide) ?_
    refine g_icmp_ge X 39 dX3_stepOverWord_6 (by decide) (fun c => ?_) (fun c => ?_)
    · replace h := gTr c h
      refine g_sub X [0] (ls' := [(0, .ref (r 5))]) rfl ?_
      exact bX3_stepOverWord_39 X  _   h
    · replace h := gF c h
      refine g_aload_n X dX3_stepOverWord_9 rfl 0 rfl ?_
      refine g_aload_n X dX3_stepOverWord_10 rfl 0 rfl ?_
      refine g_get X fl3_26 hNC_5 (shC_5 _) rfl dX3_stepOverWord_11 ?_
      obtain ⟨y1, v2, hc3, h⟩ := gB_inv h
      refine g_callV X (st := []) (st' := [.int y1]) kcX3_byteAt kvX3_byteAt kl3_73 (⟨rfl, rfl, by decide, by decide⟩) (mX3_byteAt hc3) hNC_5 (shC_5 _) rfl rfl rfl (Nat.le_of_ble_eq_true rfl) rfl dX3_stepOverWord_14 ?_
      obtain ⟨y4, v5, hc6, h⟩ := gB_inv h
      refine g_callS X (st := []) (st' := [.int y4]) kcX3_isLetter ktX3_isLetter kl3_80 (⟨rfl, rfl, by decide, by decide⟩) (mX3_isLetter hc6) rfl rfl (Nat.le_of_ble_eq_true rfl) rfl dX3_stepOverWord_17 ?_
      refine g_if_eq X 39 dX3_stepOverWord_20 (by decide) (fun c => ?_) (fun c => ?_)
      · replace h := gTr c h
        refine g_sub X [0] (ls' := [(0, .ref (r 5))]) rfl ?_
        exact bX3_stepOverWord_39 X  _   h
      · replace h := gF c h
        refine g_aload_n X dX3_stepOverWord_23 rfl 0 rfl ?_
        refine g_dup X dX3_stepOverWord_24 rfl ?_
        refine g_get X fl3_26 hNC_5 (shC_5 _) rfl dX3_stepOverWord_25 ?_
        refine g_iconst X 1 dX3_stepOverWord_28 (by decide) ?_
        refine g_iadd X dX3_stepOverWord_29 ?_
        refine g_put X (fsC3 r) fp3_26 hNC_5 (shC_5) (fun _ => rfl) (Nat.le_of_ble_eq_true rfl) dX3_stepOverWord_30 ?_
        refine g_iinc X (x1 + 1) [(1, .int (x1 + 1)), (0, .ref (r 5))] dX3_stepOverWord_33 1 rfl rfl (by decide) rfl ?_
        refine g_goto X 2 dX3_stepOverWord_36 (by decide) ?_
        refine g_sub X [1, 0] (ls' := [(0, .ref (r 5)), (1, .int (x1 + 1))]) rfl ?_
        exact ih _ _  h

set_option maxHeartbeats 4000000 in
set_option maxRecDepth 100000 in
theorem bX3_stepOverWord_0 {l : Launch} {D : va_G} {cA : Nat → ClassId} {r : Nat → Nat} {G : gG} {xr : Unit} {v' : gV} (X : XC l D cA r RX3 cX3_stepOverWord 2 none rmX3_stepOverWord none v' G) (v : gV)  (h : fX3_stepOverWord v  = some (xr, v')) : G v [(0, .ref (r 5))] 0 [] := by
  unfold fX3_stepOverWord at h
  refine g_iconst X 0 dX3_stepOverWord_0 (by decide) ?_
  refine g_istore_n X (ls' := [(1, .int 0), (0, .ref (r 5))]) dX3_stepOverWord_1 rfl (by decide) rfl ?_
  refine g_sub X [1, 0] (ls' := [(0, .ref (r 5)), (1, .int 0)]) rfl ?_
  exact bX3_stepOverWord_2 X  _ _ _  h

theorem mX3_stepOverWord {l : Launch} {D : va_G} {cA : Nat → ClassId} {r : Nat → Nat} {v : gV}  {xr : Unit} {v' : gV} (h : fX3_stepOverWord v  = some (xr, v')) : Ct l D (tysC cA) (shC cA r) 50 r (ZC r) yX3_stepOverWord cX3_stepOverWord 2 none rmX3_stepOverWord [.ref (r 5)] v none v' := ct_of plX3 ZC_ok (Nat.le_of_ble_eq_true rfl) rfl (fun _ X => bX3_stepOverWord_0 X v  h)

def rmX3_step : Room := { frames := 7, cells := 0, slots := 0, locals := 243 }

set_option maxHeartbeats 4000000 in
set_option maxRecDepth 100000 in
theorem bX3_step_109 {l : Launch} {D : va_G} {cA : Nat → ClassId} {r : Nat → Nat} {G : gG} {xr : Unit} {v' : gV} (X : XC l D cA r RX3 cX3_step 2 none rmX3_step none v' G) (v : gV) (s1 : Int32) (h : fX3_step_109 v s1 = some (xr, v')) : G v [(0, .ref (r 5))] 109 [.int s1, .ref (r 5)] := by
  unfold fX3_step_109 at h
  refine g_put X (fsC3 r) fp3_32 hNC_5 (shC_5) (fun _ => rfl) (Nat.le_of_ble_eq_true rfl) dX3_step_109 ?_
  refine g_aload_n X dX3_step_112 rfl 0 rfl ?_
  refine g_dup X dX3_step_113 rfl ?_
  refine g_get X fl3_26 hNC_5 (shC_5 _) rfl dX3_step_114 ?_
  refine g_iconst X 1 dX3_step_117 (by decide) ?_
  refine g_iadd X dX3_step_118 ?_
  refine g_put X (fsC3 r) fp3_26 hNC_5 (shC_5) (fun _ => rfl) (Nat.le_of_ble_eq_true rfl) dX3_step_119 ?_
  exact g_vretR X h dX3_step_122

set_option maxHeartbeats 4000000 in
set_option maxRecDepth 100000 in
theorem bX3_step_39 {l : Launch} {D : va_G} {cA : Nat → ClassId} {r : Nat → Nat} {G : gG} {xr : Unit} {v' : gV} (X : XC l D cA r RX3 cX3_step 2 none rmX3_step none v' G) (v : gV)  (h : fX3_step_39 v  = some (xr, v')) : G v [(0, .ref (r 5))] 39 [] := by
  unfold fX3_step_39 at h
  refine g_aload_n X dX3_step_39 rfl 0 rfl ?_
  refine g_aload_n X dX3_step_40 rfl 0 rfl ?_
  refine g_get X fl3_26 hNC_5 (shC_5 _) rfl dX3_step_41 ?_
  refine g_put X (fsC3 r) fp3_35 hNC_5 (shC_5) (fun _ => rfl) (Nat.le_of_ble_eq_true rfl) dX3_step_44 ?_
  refine g_aload_n X dX3_step_47 rfl 0 rfl ?_
  refine g_aload_n X dX3_step_48 rfl 0 rfl ?_
  refine g_get X fl3_26 hNC_5 (shC_5 _) rfl dX3_step_49 ?_
  obtain ⟨y7, v8, hc9, h⟩ := gB_inv h
  refine g_callV X (st := []) (st' := [.int y7]) kcX3_byteAt kvX3_byteAt kl3_73 (⟨rfl, rfl, by decide, by decide⟩) (mX3_byteAt hc9) hNC_5 (shC_5 _) rfl rfl rfl (Nat.le_of_ble_eq_true rfl) rfl dX3_step_52 ?_
  refine g_istore_n X (ls' := [(1, .int y7), (0, .ref (r 5))]) dX3_step_55 rfl (by decide) rfl ?_
  refine g_iload_n X dX3_step_56 rfl 0 rfl ?_
  refine g_if_ge X 68 dX3_step_57 (by decide) (fun c => ?_) (fun c => ?_)
  · replace h := gTr c h
    refine g_iload_n X dX3_step_68 rfl 0 rfl ?_
    obtain ⟨y10, v11, hc12, h⟩ := gB_inv h
    refine g_callS X (st := []) (st' := [.int y10]) kcX3_isLetter ktX3_isLetter kl3_80 (⟨rfl, rfl, by decide, by decide⟩) (mX3_isLetter hc12) rfl rfl (Nat.le_of_ble_eq_true rfl) rfl dX3_step_69 ?_
    refine g_if_eq X 82 dX3_step_72 (by decide) (fun c => ?_) (fun c => ?_)
    · replace h := gTr c h
      refine g_iload_n X dX3_step_82 rfl 0 rfl ?_
      obtain ⟨y13, v14, hc15, h⟩ := gB_inv h
      refine g_callS X (st := []) (st' := [.int y13]) kcX3_isDigit ktX3_isDigit kl3_86 (⟨rfl, rfl, by decide, by decide⟩) (mX3_isDigit hc15) rfl rfl (Nat.le_of_ble_eq_true rfl) rfl dX3_step_83 ?_
      refine g_if_eq X 96 dX3_step_86 (by decide) (fun c => ?_) (fun c => ?_)
      · replace h := gTr c h
        refine g_aload_n X dX3_step_96 rfl 1 rfl ?_
        refine g_iload_n X dX3_step_97 rfl 0 rfl ?_
        obtain ⟨y16, v17, hc18, h⟩ := gB_inv h
        refine g_callS X (st := [.ref (r 5)]) (st' := [.int y16, .ref (r 5)]) kcX3_isSign ktX3_isSign kl3_92 (⟨rfl, rfl, by decide, by decide⟩) (mX3_isSign hc18) rfl rfl (Nat.le_of_ble_eq_true rfl) rfl dX3_step_98 ?_
        refine g_if_eq X 108 dX3_step_101 (by decide) (fun c => ?_) (fun c => ?_)
        · replace h := gTr c h
          refine g_iconst X 1 dX3_step_108 (by decide) ?_
          refine g_sub X [1] (ls' := [(0, .ref (r 5))]) rfl ?_
          exact bX3_step_109 X  _ _  h
        · replace h := gF c h
          refine g_iload_n X dX3_step_104 rfl 0 rfl ?_
          refine g_goto X 109 dX3_step_105 (by decide) ?_
          refine g_sub X [1] (ls' := [(0, .ref (r 5))]) rfl ?_
          exact bX3_step_109 X  _ _  h
      · replace h := gF c h
        refine g_aload_n X dX3_step_89 rfl 1 rfl ?_
        obtain ⟨y19, v20, hc21, h⟩ := gB_inv h
        refine g_callV X (st := []) (st' := []) kcX3_stepOverNumber kvX3_stepOverNumber kl3_89 (⟨rfl, rfl, by decide, by decide⟩) (mX3_stepOverNumber hc21) hNC_5 (shC_5 _) rfl rfl rfl (Nat.le_of_ble_eq_true rfl) rfl dX3_step_90 ?_
        refine g_goto X 122 dX3_step_93 (by decide) ?_
        exact g_vretR X h dX3_step_122
    · replace h := gF c h
      refine g_aload_n X dX3_step_75 rfl 1 rfl ?_
      obtain ⟨y22, v23, hc24, h⟩ := gB_inv h
      refine g_callV X (st := []) (st' := []) kcX3_stepOverWord kvX3_stepOverWord kl3_83 (⟨rfl, rfl, by decide, by decide⟩) (mX3_stepOverWord hc24) hNC_5 (shC_5 _) rfl rfl rfl (Nat.le_of_ble_eq_true rfl) rfl dX3_step_76 ?_
      refine g_goto X 122 dX3_step_79 (by decide) ?_
      exact g_vretR X h dX3_step_122
  · replace h := gF c h
    refine g_aload_n X dX3_step_60 rfl 1 rfl ?_
    refine g_iconst X 0 dX3_step_61 (by decide) ?_
    refine g_put X (fsC3 r) fp3_32 hNC_5 (shC_5) (fun _ => rfl) (Nat.le_of_ble_eq_true rfl) dX3_step_62 ?_
    refine g_goto X 122 dX3_step_65 (by decide) ?_
    exact g_vretR X h dX3_step_122

set_option maxHeartbeats 4000000 in
set_option maxRecDepth 100000 in
theorem bX3_step_2 {l : Launch} {D : va_G} {cA : Nat → ClassId} {r : Nat → Nat} {G : gG} {xr : Unit} {v' : gV} (X : XC l D cA r RX3 cX3_step 2 none rmX3_step none v' G) : ∀ (n : Nat) (v : gV) (x1 : Int32), fX3_step_2 n v x1 = some (xr, v') → G v [(0, .ref (r 5)), (1, .int x1)] 2 [] := by
  intro n
  induction n with
  | zero => intro v x1 h; rw [fX3_step_2] at h; cases h
  | succ n ih =>
    intro v x1 h
    rw [fX3_step_2] at h
    refine g_iload_n X dX3_step_2 rfl 1 rfl ?_
    refine g_sipush X 160 dX3_step_3 (by decide) ?_
    refine g_icmp_ge X 39 dX3_step_6 (by decide) (fun c => ?_) (fun c => ?_)
    · replace h := gTr c h
      refine g_sub X [0] (ls' := [(0, .ref (r 5))]) rfl ?_
      exact bX3_step_39 X  _   h
    · replace h := gF c h
      refine g_aload_n X dX3_step_9 rfl 0 rfl ?_
      refine g_aload_n X dX3_step_10 rfl 0 rfl ?_
      refine g_get X fl3_26 hNC_5 (shC_5 _) rfl dX3_step_11 ?_
      obtain ⟨y1, v2, hc3, h⟩ := gB_inv h
      refine g_callV X (st := []) (st' := [.int y1]) kcX3_byteAt kvX3_byteAt kl3_73 (⟨rfl, rfl, by decide, by decide⟩) (mX3_byteAt hc3) hNC_5 (shC_5 _) rfl rfl rfl (Nat.le_of_ble_eq_true rfl) rfl dX3_step_14 ?_
      obtain ⟨y4, v5, hc6, h⟩ := gB_inv h
      refine g_callS X (st := []) (st' := [.int y4]) kcX3_isBlank ktX3_isBlank kl3_77 (⟨rfl, rfl, by decide, by decide⟩) (mX3_isBlank hc6) rfl rfl (Nat.le_of_ble_eq_true rfl) rfl dX3_step_17 ?_
      refine g_if_eq X 39 dX3_step_20 (by decide) (fun c => ?_) (fun c => ?_)
      · replace h := gTr c h
        refine g_sub X [0] (ls' := [(0, .ref (r 5))]) rfl ?_
        exact bX3_step_39 X  _   h
      · replace h := gF c h
        refine g_aload_n X dX3_step_23 rfl 0 rfl ?_
        refine g_dup X dX3_step_24 rfl ?_
        refine g_get X fl3_26 hNC_5 (shC_5 _) rfl dX3_step_25 ?_
        refine g_iconst X 1 dX3_step_28 (by decide) ?_
        refine g_iadd X dX3_step_29 ?_
        refine g_put X (fsC3 r) fp3_26 hNC_5 (shC_5) (fun _ => rfl) (Nat.le_of_ble_eq_true rfl) dX3_step_30 ?_
        refine g_iinc X (x1 + 1) [(1, .int (x1 + 1)), (0, .ref (r 5))] dX3_step_33 1 rfl rfl (by decide) rfl ?_
        refine g_goto X 2 dX3_step_36 (by decide) ?_
        refine g_sub X [1, 0] (ls' := [(0, .ref (r 5)), (1, .int (x1 + 1))]) rfl ?_
        exact ih _ _  h

set_option maxHeartbeats 4000000 in
set_option maxRecDepth 100000 in
theorem bX3_step_0 {l : Launch} {D : va_G} {cA : Nat → ClassId} {r : Nat → Nat} {G : gG} {xr : Unit} {v' : gV} (X : XC l D cA r RX3 cX3_step 2 none rmX3_step none v' G) (v : gV)  (h : fX3_step v  = some (xr, v')) : G v [(0, .ref (r 5))] 0 [] := by
  unfold fX3_step at h
  refine g_iconst X 0 dX3_step_0 (by decide) ?_
  refine g_istore_n X (ls' := [(1, .int 0), (0, .ref (r 5))]) dX3_step_1 rfl (by decide) rfl ?_
  refine g_sub X [1, 0] (ls' := [(0, .ref (r 5)), (1, .int 0)]) rfl ?_
  exact bX3_step_2 X  _ _ _  h

theorem mX3_step {l : Launch} {D : va_G} {cA : Nat → ClassId} {r : Nat → Nat} {v : gV}  {xr : Unit} {v' : gV} (h : fX3_step v  = some (xr, v')) : Ct l D (tysC cA) (shC cA r) 50 r (ZC r) yX3_step cX3_step 2 none rmX3_step [.ref (r 5)] v none v' := ct_of plX3 ZC_ok (Nat.le_of_ble_eq_true rfl) rfl (fun _ X => bX3_step_0 X v  h)

def HX3_rd (l : Launch) (D : va_G) (cA : Nat → ClassId) (r : Nat → Nat) (rmP : Room) (R : Nat → gV → Int32 → Option (Int32 × gV)) : Prop :=
  (∀ (v : gV) (x1 : Int32) (xr : Int32) (v' : gV), R 0 v x1 = some (xr, v') → Ct l D (tysC cA) (shC cA r) 50 r (ZC r) yX3_readOr cX3_readOr 4 (some .boolean) rmP [.ref (r 5), .int x1] v (some (.int xr)) v') ∧
  (∀ (v : gV) (x1 : Int32) (xr : Int32) (v' : gV), R 1 v x1 = some (xr, v') → Ct l D (tysC cA) (shC cA r) 50 r (ZC r) yX3_readAnd cX3_readAnd 4 (some .boolean) rmP [.ref (r 5), .int x1] v (some (.int xr)) v') ∧
  (∀ (v : gV) (x1 : Int32) (xr : Int32) (v' : gV), R 2 v x1 = some (xr, v') → Ct l D (tysC cA) (shC cA r) 50 r (ZC r) yX3_readNot cX3_readNot 4 (some .boolean) rmP [.ref (r 5), .int x1] v (some (.int xr)) v') ∧
  (∀ (v : gV) (x1 : Int32) (xr : Int32) (v' : gV), R 3 v x1 = some (xr, v') → Ct l D (tysC cA) (shC cA r) 50 r (ZC r) yX3_readSum cX3_readSum 5 (some .boolean) rmP [.ref (r 5), .int x1] v (some (.int xr)) v') ∧
  (∀ (v : gV) (x1 : Int32) (xr : Int32) (v' : gV), R 4 v x1 = some (xr, v') → Ct l D (tysC cA) (shC cA r) 50 r (ZC r) yX3_readTerm cX3_readTerm 4 (some .boolean) rmP [.ref (r 5), .int x1] v (some (.int xr)) v') ∧
  (∀ (v : gV) (x1 : Int32) (xr : Int32) (v' : gV), R 5 v x1 = some (xr, v') → Ct l D (tysC cA) (shC cA r) 50 r (ZC r) yX3_readOne cX3_readOne 4 (some .boolean) rmP [.ref (r 5), .int x1] v (some (.int xr)) v')

set_option maxHeartbeats 4000000 in
set_option maxRecDepth 100000 in
theorem bX3_readOne_80 {l : Launch} {D : va_G} {cA : Nat → ClassId} {r : Nat → Nat} {G : gG} {xr : Int32} {v' : gV} {R : Nat → gV → Int32 → Option (Int32 × gV)} {rmP rm : Room} (X : XC l D cA r RX3 cX3_readOne 4 (some .boolean) rm (some (.int xr)) v' G) (HR : HX3_rd l D cA r rmP R) (hrm : ∀ k, k ≤ 20 → gRm rm rmP k) (hbig : gBig rm) (v : gV) (x1 : Int32) (h : fX3_readOne_80 R v x1 = some (xr, v')) : G v [(0, .ref (r 5)), (1, .int x1)] 80 [] := by
  unfold fX3_readOne_80 at h
  refine g_iload_n X dX3_readOne_80 rfl 1 rfl ?_
  refine g_iconst X 5 dX3_readOne_81 (by decide) ?_
  refine g_icmp_lt X 87 dX3_readOne_82 (by decide) (fun c => ?_) (fun c => ?_)
  · replace h := gTr c h
    refine g_aload_n X dX3_readOne_87 rfl 0 rfl ?_
    refine g_get X fl3_32 hNC_5 (shC_5 _) rfl dX3_readOne_88 ?_
    refine g_bipush X 45 dX3_readOne_91 (by decide) ?_
    refine g_icmp_ne X 117 dX3_readOne_93 (by decide) (fun c => ?_) (fun c => ?_)
    · replace h := gF c h
      refine g_aload_n X dX3_readOne_117 rfl 0 rfl ?_
      obtain ⟨y13, v14, hc15, h⟩ := gB_inv h
      refine g_callV X (st := []) (st' := []) kcX3_step kvX3_step kl3_29 (gRm_big hbig (by decide)) (mX3_step hc15) hNC_5 (shC_5 _) rfl rfl rfl (Nat.le_of_ble_eq_true rfl) rfl dX3_readOne_118 ?_
      refine g_aload_n X dX3_readOne_121 rfl 0 rfl ?_
      refine g_iload_n X dX3_readOne_122 rfl 1 rfl ?_
      refine g_iconst X 1 dX3_readOne_123 (by decide) ?_
      refine g_iadd X dX3_readOne_124 ?_
      obtain ⟨y16, v17, hc18, h⟩ := gB_inv h
      refine g_callV X (st := []) (st' := [.int y16]) kcX3_readOr kvX3_readOr kl3_38 (hrm _ (by decide)) (HR.1 _ _ _ _ hc18) hNC_5 (shC_5 _) rfl rfl rfl (Nat.le_of_ble_eq_true rfl) rfl dX3_readOne_125 ?_
      refine g_if_eq X 140 dX3_readOne_128 (by decide) (fun c => ?_) (fun c => ?_)
      · replace h := gTr c h
        refine g_iconst X 0 dX3_readOne_140 (by decide) ?_
        exact g_zretR X (Or.inl rfl) h dX3_readOne_141
      · replace h := gF c h
        refine g_aload_n X dX3_readOne_131 rfl 0 rfl ?_
        refine g_get X fl3_32 hNC_5 (shC_5 _) rfl dX3_readOne_132 ?_
        refine g_bipush X 41 dX3_readOne_135 (by decide) ?_
        refine g_icmp_eq X 142 dX3_readOne_137 (by decide) (fun c => ?_) (fun c => ?_)
        · replace h := gTr c h
          refine g_aload_n X dX3_readOne_142 rfl 0 rfl ?_
          obtain ⟨y19, v20, hc21, h⟩ := gB_inv h
          refine g_callV X (st := []) (st' := []) kcX3_step kvX3_step kl3_29 (gRm_big hbig (by decide)) (mX3_step hc21) hNC_5 (shC_5 _) rfl rfl rfl (Nat.le_of_ble_eq_true rfl) rfl dX3_readOne_143 ?_
          refine g_iconst X 1 dX3_readOne_146 (by decide) ?_
          exact g_zretR X (Or.inr rfl) h dX3_readOne_147
        · replace h := gF c h
          refine g_iconst X 0 dX3_readOne_140 (by decide) ?_
          exact g_zretR X (Or.inl rfl) h dX3_readOne_141
    · replace h := gTr c h
      refine g_aload_n X dX3_readOne_96 rfl 0 rfl ?_
      obtain ⟨y22, v23, hc24, h⟩ := gB_inv h
      refine g_callV X (st := []) (st' := []) kcX3_step kvX3_step kl3_29 (gRm_big hbig (by decide)) (mX3_step hc24) hNC_5 (shC_5 _) rfl rfl rfl (Nat.le_of_ble_eq_true rfl) rfl dX3_readOne_97 ?_
      refine g_aload_n X dX3_readOne_100 rfl 0 rfl ?_
      refine g_iload_n X dX3_readOne_101 rfl 1 rfl ?_
      refine g_iconst X 1 dX3_readOne_102 (by decide) ?_
      refine g_iadd X dX3_readOne_103 ?_
      obtain ⟨y25, v26, hc27, h⟩ := gB_inv h
      refine g_callV X (st := []) (st' := [.int y25]) kcX3_readOne kvX3_readOne kl3_61 (hrm _ (by decide)) (HR.2.2.2.2.2 _ _ _ _ hc27) hNC_5 (shC_5 _) rfl rfl rfl (Nat.le_of_ble_eq_true rfl) rfl dX3_readOne_104 ?_
      refine g_istore_n X (ls' := [(3, .int y25), (0, .ref (r 5)), (1, .int x1)]) dX3_readOne_107 rfl (by decide) rfl ?_
      refine g_aload_n X dX3_readOne_108 rfl 1 rfl ?_
      refine g_sipush X 20000 dX3_readOne_109 (by decide) ?_
      obtain ⟨y28, v29, hc30, h⟩ := gB_inv h
      refine g_callV X (st := []) (st' := []) kcX3_emit kvX3_emit kl3_49 (gRm_big hbig (by decide)) (mX3_emit hc30) hNC_5 (shC_5 _) rfl rfl rfl (Nat.le_of_ble_eq_true rfl) rfl dX3_readOne_112 ?_
      refine g_iload_n X dX3_readOne_115 rfl 0 rfl ?_
      obtain ⟨c, h⟩ := gGd h
      exact g_zretR X c h dX3_readOne_116
  · replace h := gF c h
    refine g_iconst X 0 dX3_readOne_85 (by decide) ?_
    exact g_zretR X (Or.inl rfl) h dX3_readOne_86

set_option maxHeartbeats 4000000 in
set_option maxRecDepth 100000 in
theorem bX3_readOne_62 {l : Launch} {D : va_G} {cA : Nat → ClassId} {r : Nat → Nat} {G : gG} {xr : Int32} {v' : gV} {R : Nat → gV → Int32 → Option (Int32 × gV)} {rmP rm : Room} (X : XC l D cA r RX3 cX3_readOne 4 (some .boolean) rm (some (.int xr)) v' G) (HR : HX3_rd l D cA r rmP R) (hrm : ∀ k, k ≤ 20 → gRm rm rmP k) (hbig : gBig rm) (v : gV) (x1 : Int32) (h : fX3_readOne_62 R v x1 = some (xr, v')) : G v [(0, .ref (r 5)), (1, .int x1)] 62 [] := by
  unfold fX3_readOne_62 at h
  refine g_aload_n X dX3_readOne_62 rfl 0 rfl ?_
  refine g_get X fl3_32 hNC_5 (shC_5 _) rfl dX3_readOne_63 ?_
  refine g_bipush X 45 dX3_readOne_66 (by decide) ?_
  refine g_icmp_eq X 80 dX3_readOne_68 (by decide) (fun c => ?_) (fun c => ?_)
  · replace h := gTr c h
    exact bX3_readOne_80 X HR hrm hbig  _ _  h
  · replace h := gF c h
    refine g_aload_n X dX3_readOne_71 rfl 0 rfl ?_
    refine g_get X fl3_32 hNC_5 (shC_5 _) rfl dX3_readOne_72 ?_
    refine g_bipush X 40 dX3_readOne_75 (by decide) ?_
    refine g_icmp_ne X 85 dX3_readOne_77 (by decide) (fun c => ?_) (fun c => ?_)
    · replace h := gF c h
      refine g_iconst X 0 dX3_readOne_85 (by decide) ?_
      exact g_zretR X (Or.inl rfl) h dX3_readOne_86
    · replace h := gTr c h
      exact bX3_readOne_80 X HR hrm hbig  _ _  h

set_option maxHeartbeats 4000000 in
set_option maxRecDepth 100000 in
theorem bX3_readOne_0 {l : Launch} {D : va_G} {cA : Nat → ClassId} {r : Nat → Nat} {G : gG} {xr : Int32} {v' : gV} {R : Nat → gV → Int32 → Option (Int32 × gV)} {rmP rm : Room} (X : XC l D cA r RX3 cX3_readOne 4 (some .boolean) rm (some (.int xr)) v' G) (HR : HX3_rd l D cA r rmP R) (hrm : ∀ k, k ≤ 20 → gRm rm rmP k) (hbig : gBig rm) (v : gV) (x1 : Int32) (h : fX3_readOne R v x1 = some (xr, v')) : G v [(0, .ref (r 5)), (1, .int x1)] 0 [] := by
  unfold fX3_readOne at h
  refine g_aload_n X dX3_readOne_0 rfl 0 rfl ?_
  refine g_get X fl3_32 hNC_5 (shC_5 _) rfl dX3_readOne_1 ?_
  refine g_iconst X 2 dX3_readOne_4 (by decide) ?_
  refine g_icmp_ne X 22 dX3_readOne_5 (by decide) (fun c => ?_) (fun c => ?_)
  · replace h := gF c h
    refine g_aload_n X dX3_readOne_22 rfl 0 rfl ?_
    refine g_get X fl3_32 hNC_5 (shC_5 _) rfl dX3_readOne_23 ?_
    refine g_sipush X 306 dX3_readOne_26 (by decide) ?_
    refine g_isub X dX3_readOne_29 ?_
    refine g_istore_n X (ls' := [(2, .int ((v 5 4) - 306)), (0, .ref (r 5)), (1, .int x1)]) dX3_readOne_30 rfl (by decide) rfl ?_
    refine g_iload_n X dX3_readOne_31 rfl 0 rfl ?_
    refine g_if_lt X 62 dX3_readOne_32 (by decide) (fun c => ?_) (fun c => ?_)
    · replace h := gTr c h
      refine g_sub X [1, 2] (ls' := [(0, .ref (r 5)), (1, .int x1)]) rfl ?_
      exact bX3_readOne_62 X HR hrm hbig  _ _  h
    · replace h := gF c h
      refine g_iload_n X dX3_readOne_35 rfl 0 rfl ?_
      refine g_gets X zZ2 ks3_67 dX3_readOne_36 ?_
      refine g_alenT X zT2 6 rfl dX3_readOne_39 ?_
      refine g_icmp_ge X 62 dX3_readOne_40 (by decide) (fun c => ?_) (fun c => ?_)
      · replace h := gTr c h
        refine g_sub X [1, 2] (ls' := [(0, .ref (r 5)), (1, .int x1)]) rfl ?_
        exact bX3_readOne_62 X HR hrm hbig  _ _  h
      · replace h := gF c h
        refine g_aload_n X dX3_readOne_43 rfl 1 rfl ?_
        refine g_sipush X 10000 dX3_readOne_44 (by decide) ?_
        refine g_gets X zZ2 ks3_67 dX3_readOne_47 ?_
        refine g_iload_n X dX3_readOne_50 rfl 0 rfl ?_
        obtain ⟨c, h⟩ := gGd h
        refine g_ialdT X zT2 (gin_in c) dX3_readOne_51 ?_
        refine g_iadd X dX3_readOne_52 ?_
        obtain ⟨y1, v2, hc3, h⟩ := gB_inv h
        refine g_callV X (st := []) (st' := []) kcX3_emit kvX3_emit kl3_49 (gRm_big hbig (by decide)) (mX3_emit hc3) hNC_5 (shC_5 _) rfl rfl rfl (Nat.le_of_ble_eq_true rfl) rfl dX3_readOne_53 ?_
        refine g_aload_n X dX3_readOne_56 rfl 1 rfl ?_
        obtain ⟨y4, v5, hc6, h⟩ := gB_inv h
        refine g_callV X (st := []) (st' := []) kcX3_step kvX3_step kl3_29 (gRm_big hbig (by decide)) (mX3_step hc6) hNC_5 (shC_5 _) rfl rfl rfl (Nat.le_of_ble_eq_true rfl) rfl dX3_readOne_57 ?_
        refine g_iconst X 1 dX3_readOne_60 (by decide) ?_
        exact g_zretR X (Or.inr rfl) h dX3_readOne_61
  · replace h := gTr c h
    refine g_aload_n X dX3_readOne_8 rfl 0 rfl ?_
    refine g_aload_n X dX3_readOne_9 rfl 0 rfl ?_
    refine g_get X fl3_64 hNC_5 (shC_5 _) rfl dX3_readOne_10 ?_
    obtain ⟨y7, v8, hc9, h⟩ := gB_inv h
    refine g_callV X (st := []) (st' := []) kcX3_emit kvX3_emit kl3_49 (gRm_big hbig (by decide)) (mX3_emit hc9) hNC_5 (shC_5 _) rfl rfl rfl (Nat.le_of_ble_eq_true rfl) rfl dX3_readOne_13 ?_
    refine g_aload_n X dX3_readOne_16 rfl 0 rfl ?_
    obtain ⟨y10, v11, hc12, h⟩ := gB_inv h
    refine g_callV X (st := []) (st' := []) kcX3_step kvX3_step kl3_29 (gRm_big hbig (by decide)) (mX3_step hc12) hNC_5 (shC_5 _) rfl rfl rfl (Nat.le_of_ble_eq_true rfl) rfl dX3_readOne_17 ?_
    refine g_iconst X 1 dX3_readOne_20 (by decide) ?_
    exact g_zretR X (Or.inr rfl) h dX3_readOne_21

theorem moX3_readOne {l : Launch} {D : va_G} {cA : Nat → ClassId} {r : Nat → Nat} {v : gV} {x1 : Int32} {xr : Int32} {v' : gV} {R : Nat → gV → Int32 → Option (Int32 × gV)} {rmP rm : Room} (HR : HX3_rd l D cA r rmP R) (hrm : ∀ k, k ≤ 20 → gRm rm rmP k) (hbig : gBig rm) (h : fX3_readOne R v x1 = some (xr, v')) : Ct l D (tysC cA) (shC cA r) 50 r (ZC r) yX3_readOne cX3_readOne 4 (some .boolean) rm [.ref (r 5), .int x1] v (some (.int xr)) v' := ct_of plX3 ZC_ok (Nat.le_of_ble_eq_true rfl) rfl (fun _ X => bX3_readOne_0 X HR hrm hbig v x1 h)

set_option maxHeartbeats 4000000 in
set_option maxRecDepth 100000 in
theorem bX3_readTerm_8 {l : Launch} {D : va_G} {cA : Nat → ClassId} {r : Nat → Nat} {G : gG} {xr : Int32} {v' : gV} {R : Nat → gV → Int32 → Option (Int32 × gV)} {rmP rm : Room} (X : XC l D cA r RX3 cX3_readTerm 4 (some .boolean) rm (some (.int xr)) v' G) (HR : HX3_rd l D cA r rmP R) (hrm : ∀ k, k ≤ 20 → gRm rm rmP k) (hbig : gBig rm) : ∀ (n : Nat) (v : gV) (x1 : Int32) (x2 : Int32) (x3 : Int32), fX3_readTerm_8 R n v x1 x2 x3 = some (xr, v') → G v [(0, .ref (r 5)), (1, .int x1), (2, .int x2), (3, .int x3)] 8 [] := by
  intro n
  induction n with
  | zero => intro v x1 x2 x3 h; rw [fX3_readTerm_8] at h; cases h
  | succ n ih =>
    intro v x1 x2 x3 h
    rw [fX3_readTerm_8] at h
    refine g_iload_n X dX3_readTerm_8 rfl 3 rfl ?_
    refine g_sipush X 160 dX3_readTerm_9 (by decide) ?_
    refine g_icmp_ge X 51 dX3_readTerm_12 (by decide) (fun c => ?_) (fun c => ?_)
    · replace h := gTr c h
      refine g_iload_n X dX3_readTerm_51 rfl 2 rfl ?_
      obtain ⟨c, h⟩ := gGd h
      exact g_zretR X c h dX3_readTerm_52
    · replace h := gF c h
      refine g_iload_n X dX3_readTerm_15 rfl 2 rfl ?_
      refine g_if_eq X 51 dX3_readTerm_16 (by decide) (fun c => ?_) (fun c => ?_)
      · replace h := gTr c h
        refine g_iload_n X dX3_readTerm_51 rfl 2 rfl ?_
        obtain ⟨c, h⟩ := gGd h
        exact g_zretR X c h dX3_readTerm_52
      · replace h := gF c h
        refine g_aload_n X dX3_readTerm_19 rfl 0 rfl ?_
        refine g_get X fl3_32 hNC_5 (shC_5 _) rfl dX3_readTerm_20 ?_
        refine g_bipush X 42 dX3_readTerm_23 (by decide) ?_
        refine g_icmp_ne X 51 dX3_readTerm_25 (by decide) (fun c => ?_) (fun c => ?_)
        · replace h := gF c h
          refine g_iload_n X dX3_readTerm_51 rfl 2 rfl ?_
          obtain ⟨c, h⟩ := gGd h
          exact g_zretR X c h dX3_readTerm_52
        · replace h := gTr c h
          refine g_aload_n X dX3_readTerm_28 rfl 0 rfl ?_
          obtain ⟨y4, v5, hc6, h⟩ := gB_inv h
          refine g_callV X (st := []) (st' := []) kcX3_step kvX3_step kl3_29 (gRm_big hbig (by decide)) (mX3_step hc6) hNC_5 (shC_5 _) rfl rfl rfl (Nat.le_of_ble_eq_true rfl) rfl dX3_readTerm_29 ?_
          refine g_aload_n X dX3_readTerm_32 rfl 0 rfl ?_
          refine g_iload_n X dX3_readTerm_33 rfl 1 rfl ?_
          obtain ⟨y7, v8, hc9, h⟩ := gB_inv h
          refine g_callV X (st := []) (st' := [.int y7]) kcX3_readOne kvX3_readOne kl3_61 (hrm _ (by decide)) (HR.2.2.2.2.2 _ _ _ _ hc9) hNC_5 (shC_5 _) rfl rfl rfl (Nat.le_of_ble_eq_true rfl) rfl dX3_readTerm_34 ?_
          refine g_istore_n X (ls' := [(2, .int y7), (0, .ref (r 5)), (1, .int x1), (3, .int x3)]) dX3_readTerm_37 rfl (by decide) rfl ?_
          refine g_aload_n X dX3_readTerm_38 rfl 1 rfl ?_
          refine g_sipush X 20002 dX3_readTerm_39 (by decide) ?_
          obtain ⟨y10, v11, hc12, h⟩ := gB_inv h
          refine g_callV X (st := []) (st' := []) kcX3_emit kvX3_emit kl3_49 (gRm_big hbig (by decide)) (mX3_emit hc12) hNC_5 (shC_5 _) rfl rfl rfl (Nat.le_of_ble_eq_true rfl) rfl dX3_readTerm_42 ?_
          refine g_iinc X (x3 + 1) [(3, .int (x3 + 1)), (2, .int y7), (0, .ref (r 5)), (1, .int x1)] dX3_readTerm_45 3 rfl rfl (by decide) rfl ?_
          refine g_goto X 8 dX3_readTerm_48 (by decide) ?_
          refine g_sub X [2, 3, 1, 0] (ls' := [(0, .ref (r 5)), (1, .int x1), (2, .int y7), (3, .int (x3 + 1))]) rfl ?_
          exact ih _ _ _ _  h

set_option maxHeartbeats 4000000 in
set_option maxRecDepth 100000 in
theorem bX3_readTerm_0 {l : Launch} {D : va_G} {cA : Nat → ClassId} {r : Nat → Nat} {G : gG} {xr : Int32} {v' : gV} {R : Nat → gV → Int32 → Option (Int32 × gV)} {rmP rm : Room} (X : XC l D cA r RX3 cX3_readTerm 4 (some .boolean) rm (some (.int xr)) v' G) (HR : HX3_rd l D cA r rmP R) (hrm : ∀ k, k ≤ 20 → gRm rm rmP k) (hbig : gBig rm) (v : gV) (x1 : Int32) (h : fX3_readTerm R v x1 = some (xr, v')) : G v [(0, .ref (r 5)), (1, .int x1)] 0 [] := by
  unfold fX3_readTerm at h
  refine g_aload_n X dX3_readTerm_0 rfl 0 rfl ?_
  refine g_iload_n X dX3_readTerm_1 rfl 1 rfl ?_
  obtain ⟨y1, v2, hc3, h⟩ := gB_inv h
  refine g_callV X (st := []) (st' := [.int y1]) kcX3_readOne kvX3_readOne kl3_61 (hrm _ (by decide)) (HR.2.2.2.2.2 _ _ _ _ hc3) hNC_5 (shC_5 _) rfl rfl rfl (Nat.le_of_ble_eq_true rfl) rfl dX3_readTerm_2 ?_
  refine g_istore_n X (ls' := [(2, .int y1), (0, .ref (r 5)), (1, .int x1)]) dX3_readTerm_5 rfl (by decide) rfl ?_
  refine g_iconst X 0 dX3_readTerm_6 (by decide) ?_
  refine g_istore_n X (ls' := [(3, .int 0), (2, .int y1), (0, .ref (r 5)), (1, .int x1)]) dX3_readTerm_7 rfl (by decide) rfl ?_
  refine g_sub X [2, 3, 1, 0] (ls' := [(0, .ref (r 5)), (1, .int x1), (2, .int y1), (3, .int 0)]) rfl ?_
  exact bX3_readTerm_8 X HR hrm hbig  _ _ _ _ _  h

theorem moX3_readTerm {l : Launch} {D : va_G} {cA : Nat → ClassId} {r : Nat → Nat} {v : gV} {x1 : Int32} {xr : Int32} {v' : gV} {R : Nat → gV → Int32 → Option (Int32 × gV)} {rmP rm : Room} (HR : HX3_rd l D cA r rmP R) (hrm : ∀ k, k ≤ 20 → gRm rm rmP k) (hbig : gBig rm) (h : fX3_readTerm R v x1 = some (xr, v')) : Ct l D (tysC cA) (shC cA r) 50 r (ZC r) yX3_readTerm cX3_readTerm 4 (some .boolean) rm [.ref (r 5), .int x1] v (some (.int xr)) v' := ct_of plX3 ZC_ok (Nat.le_of_ble_eq_true rfl) rfl (fun _ X => bX3_readTerm_0 X HR hrm hbig v x1 h)

set_option maxHeartbeats 4000000 in
set_option maxRecDepth 100000 in
theorem bX3_readSum_55 {l : Launch} {D : va_G} {cA : Nat → ClassId} {r : Nat → Nat} {G : gG} {xr : Int32} {v' : gV} {R : Nat → gV → Int32 → Option (Int32 × gV)} {rmP rm : Room} {k8 : gV → Int32 → Int32 → Int32 → Option (Int32 × gV)} (X : XC l D cA r RX3 cX3_readSum 5 (some .boolean) rm (some (.int xr)) v' G) (HR : HX3_rd l D cA r rmP R) (hrm : ∀ k, k ≤ 20 → gRm rm rmP k) (hbig : gBig rm) (K8 : ∀ (v : gV) (x1 : Int32) (x2 : Int32) (x3 : Int32), k8 v x1 x2 x3 = some (xr, v') → G v [(0, .ref (r 5)), (1, .int x1), (2, .int x2), (3, .int x3)] 8 []) (v : gV) (x1 : Int32) (x3 : Int32) (s0 : Int32) (h : fX3_readSum_55 R k8 v x1 x3 s0 = some (xr, v')) : G v [(0, .ref (r 5)), (1, .int x1), (3, .int x3)] 55 [.int s0] := by
  unfold fX3_readSum_55 at h
  refine g_istore X (ls' := [(4, .int s0), (0, .ref (r 5)), (1, .int x1), (3, .int x3)]) dX3_readSum_55 (by decide) rfl ?_
  refine g_aload_n X dX3_readSum_57 rfl 1 rfl ?_
  obtain ⟨y4, v5, hc6, h⟩ := gB_inv h
  refine g_callV X (st := []) (st' := []) kcX3_step kvX3_step kl3_29 (gRm_big hbig (by decide)) (mX3_step hc6) hNC_5 (shC_5 _) rfl rfl rfl (Nat.le_of_ble_eq_true rfl) rfl dX3_readSum_58 ?_
  refine g_aload_n X dX3_readSum_61 rfl 1 rfl ?_
  refine g_iload_n X dX3_readSum_62 rfl 2 rfl ?_
  obtain ⟨y7, v8, hc9, h⟩ := gB_inv h
  refine g_callV X (st := []) (st' := [.int y7]) kcX3_readTerm kvX3_readTerm kl3_58 (hrm _ (by decide)) (HR.2.2.2.2.1 _ _ _ _ hc9) hNC_5 (shC_5 _) rfl rfl rfl (Nat.le_of_ble_eq_true rfl) rfl dX3_readSum_63 ?_
  refine g_istore_n X (ls' := [(2, .int y7), (4, .int s0), (0, .ref (r 5)), (1, .int x1), (3, .int x3)]) dX3_readSum_66 rfl (by decide) rfl ?_
  refine g_aload_n X dX3_readSum_67 rfl 2 rfl ?_
  refine g_iload X dX3_readSum_68 1 rfl ?_
  obtain ⟨y10, v11, hc12, h⟩ := gB_inv h
  refine g_callV X (st := []) (st' := []) kcX3_emit kvX3_emit kl3_49 (gRm_big hbig (by decide)) (mX3_emit hc12) hNC_5 (shC_5 _) rfl rfl rfl (Nat.le_of_ble_eq_true rfl) rfl dX3_readSum_70 ?_
  refine g_iinc X (x3 + 1) [(3, .int (x3 + 1)), (2, .int y7), (4, .int s0), (0, .ref (r 5)), (1, .int x1)] dX3_readSum_73 4 rfl rfl (by decide) rfl ?_
  refine g_goto X 8 dX3_readSum_76 (by decide) ?_
  refine g_sub X [3, 4, 1, 0] (ls' := [(0, .ref (r 5)), (1, .int x1), (2, .int y7), (3, .int (x3 + 1))]) rfl ?_
  exact K8 _ _ _ _  h

set_option maxHeartbeats 4000000 in
set_option maxRecDepth 100000 in
theorem bX3_readSum_37 {l : Launch} {D : va_G} {cA : Nat → ClassId} {r : Nat → Nat} {G : gG} {xr : Int32} {v' : gV} {R : Nat → gV → Int32 → Option (Int32 × gV)} {rmP rm : Room} {k8 : gV → Int32 → Int32 → Int32 → Option (Int32 × gV)} (X : XC l D cA r RX3 cX3_readSum 5 (some .boolean) rm (some (.int xr)) v' G) (HR : HX3_rd l D cA r rmP R) (hrm : ∀ k, k ≤ 20 → gRm rm rmP k) (hbig : gBig rm) (K8 : ∀ (v : gV) (x1 : Int32) (x2 : Int32) (x3 : Int32), k8 v x1 x2 x3 = some (xr, v') → G v [(0, .ref (r 5)), (1, .int x1), (2, .int x2), (3, .int x3)] 8 []) (v : gV) (x1 : Int32) (x3 : Int32) (h : fX3_readSum_37 R k8 v x1 x3 = some (xr, v')) : G v [(0, .ref (r 5)), (1, .int x1), (3, .int x3)] 37 [] := by
  unfold fX3_readSum_37 at h
  refine g_aload_n X dX3_readSum_37 rfl 0 rfl ?_
  refine g_get X fl3_32 hNC_5 (shC_5 _) rfl dX3_readSum_38 ?_
  refine g_bipush X 43 dX3_readSum_41 (by decide) ?_
  refine g_icmp_ne X 52 dX3_readSum_43 (by decide) (fun c => ?_) (fun c => ?_)
  · replace h := gF c h
    refine g_sipush X 20004 dX3_readSum_52 (by decide) ?_
    exact bX3_readSum_55 X HR hrm hbig K8 _ _ _ _  h
  · replace h := gTr c h
    refine g_sipush X 20003 dX3_readSum_46 (by decide) ?_
    refine g_goto X 55 dX3_readSum_49 (by decide) ?_
    exact bX3_readSum_55 X HR hrm hbig K8 _ _ _ _  h

set_option maxHeartbeats 4000000 in
set_option maxRecDepth 100000 in
theorem bX3_readSum_8 {l : Launch} {D : va_G} {cA : Nat → ClassId} {r : Nat → Nat} {G : gG} {xr : Int32} {v' : gV} {R : Nat → gV → Int32 → Option (Int32 × gV)} {rmP rm : Room} (X : XC l D cA r RX3 cX3_readSum 5 (some .boolean) rm (some (.int xr)) v' G) (HR : HX3_rd l D cA r rmP R) (hrm : ∀ k, k ≤ 20 → gRm rm rmP k) (hbig : gBig rm) : ∀ (n : Nat) (v : gV) (x1 : Int32) (x2 : Int32) (x3 : Int32), fX3_readSum_8 R n v x1 x2 x3 = some (xr, v') → G v [(0, .ref (r 5)), (1, .int x1), (2, .int x2), (3, .int x3)] 8 [] := by
  intro n
  induction n with
  | zero => intro v x1 x2 x3 h; rw [fX3_readSum_8] at h; cases h
  | succ n ih =>
    intro v x1 x2 x3 h
    rw [fX3_readSum_8] at h
    refine g_iload_n X dX3_readSum_8 rfl 3 rfl ?_
    refine g_sipush X 160 dX3_readSum_9 (by decide) ?_
    refine g_icmp_ge X 79 dX3_readSum_12 (by decide) (fun c => ?_) (fun c => ?_)
    · replace h := gTr c h
      refine g_iload_n X dX3_readSum_79 rfl 2 rfl ?_
      obtain ⟨c, h⟩ := gGd h
      exact g_zretR X c h dX3_readSum_80
    · replace h := gF c h
      refine g_iload_n X dX3_readSum_15 rfl 2 rfl ?_
      refine g_if_eq X 79 dX3_readSum_16 (by decide) (fun c => ?_) (fun c => ?_)
      · replace h := gTr c h
        refine g_iload_n X dX3_readSum_79 rfl 2 rfl ?_
        obtain ⟨c, h⟩ := gGd h
        exact g_zretR X c h dX3_readSum_80
      · replace h := gF c h
        refine g_aload_n X dX3_readSum_19 rfl 0 rfl ?_
        refine g_get X fl3_32 hNC_5 (shC_5 _) rfl dX3_readSum_20 ?_
        refine g_bipush X 43 dX3_readSum_23 (by decide) ?_
        refine g_icmp_eq X 37 dX3_readSum_25 (by decide) (fun c => ?_) (fun c => ?_)
        · replace h := gTr c h
          refine g_sub X [0, 1, 3] (ls' := [(0, .ref (r 5)), (1, .int x1), (3, .int x3)]) rfl ?_
          exact bX3_readSum_37 X HR hrm hbig ih _ _ _  h
        · replace h := gF c h
          refine g_aload_n X dX3_readSum_28 rfl 0 rfl ?_
          refine g_get X fl3_32 hNC_5 (shC_5 _) rfl dX3_readSum_29 ?_
          refine g_bipush X 45 dX3_readSum_32 (by decide) ?_
          refine g_icmp_ne X 79 dX3_readSum_34 (by decide) (fun c => ?_) (fun c => ?_)
          · replace h := gF c h
            refine g_iload_n X dX3_readSum_79 rfl 2 rfl ?_
            obtain ⟨c, h⟩ := gGd h
            exact g_zretR X c h dX3_readSum_80
          · replace h := gTr c h
            refine g_sub X [0, 1, 3] (ls' := [(0, .ref (r 5)), (1, .int x1), (3, .int x3)]) rfl ?_
            exact bX3_readSum_37 X HR hrm hbig ih _ _ _  h

set_option maxHeartbeats 4000000 in
set_option maxRecDepth 100000 in
theorem bX3_readSum_0 {l : Launch} {D : va_G} {cA : Nat → ClassId} {r : Nat → Nat} {G : gG} {xr : Int32} {v' : gV} {R : Nat → gV → Int32 → Option (Int32 × gV)} {rmP rm : Room} (X : XC l D cA r RX3 cX3_readSum 5 (some .boolean) rm (some (.int xr)) v' G) (HR : HX3_rd l D cA r rmP R) (hrm : ∀ k, k ≤ 20 → gRm rm rmP k) (hbig : gBig rm) (v : gV) (x1 : Int32) (h : fX3_readSum R v x1 = some (xr, v')) : G v [(0, .ref (r 5)), (1, .int x1)] 0 [] := by
  unfold fX3_readSum at h
  refine g_aload_n X dX3_readSum_0 rfl 0 rfl ?_
  refine g_iload_n X dX3_readSum_1 rfl 1 rfl ?_
  obtain ⟨y1, v2, hc3, h⟩ := gB_inv h
  refine g_callV X (st := []) (st' := [.int y1]) kcX3_readTerm kvX3_readTerm kl3_58 (hrm _ (by decide)) (HR.2.2.2.2.1 _ _ _ _ hc3) hNC_5 (shC_5 _) rfl rfl rfl (Nat.le_of_ble_eq_true rfl) rfl dX3_readSum_2 ?_
  refine g_istore_n X (ls' := [(2, .int y1), (0, .ref (r 5)), (1, .int x1)]) dX3_readSum_5 rfl (by decide) rfl ?_
  refine g_iconst X 0 dX3_readSum_6 (by decide) ?_
  refine g_istore_n X (ls' := [(3, .int 0), (2, .int y1), (0, .ref (r 5)), (1, .int x1)]) dX3_readSum_7 rfl (by decide) rfl ?_
  refine g_sub X [2, 3, 1, 0] (ls' := [(0, .ref (r 5)), (1, .int x1), (2, .int y1), (3, .int 0)]) rfl ?_
  exact bX3_readSum_8 X HR hrm hbig  _ _ _ _ _  h

theorem moX3_readSum {l : Launch} {D : va_G} {cA : Nat → ClassId} {r : Nat → Nat} {v : gV} {x1 : Int32} {xr : Int32} {v' : gV} {R : Nat → gV → Int32 → Option (Int32 × gV)} {rmP rm : Room} (HR : HX3_rd l D cA r rmP R) (hrm : ∀ k, k ≤ 20 → gRm rm rmP k) (hbig : gBig rm) (h : fX3_readSum R v x1 = some (xr, v')) : Ct l D (tysC cA) (shC cA r) 50 r (ZC r) yX3_readSum cX3_readSum 5 (some .boolean) rm [.ref (r 5), .int x1] v (some (.int xr)) v' := ct_of plX3 ZC_ok (Nat.le_of_ble_eq_true rfl) rfl (fun _ X => bX3_readSum_0 X HR hrm hbig v x1 h)

set_option maxHeartbeats 4000000 in
set_option maxRecDepth 100000 in
theorem bX3_readNot_84 {l : Launch} {D : va_G} {cA : Nat → ClassId} {r : Nat → Nat} {G : gG} {xr : Int32} {v' : gV} {R : Nat → gV → Int32 → Option (Int32 × gV)} {rmP rm : Room} (X : XC l D cA r RX3 cX3_readNot 4 (some .boolean) rm (some (.int xr)) v' G) (HR : HX3_rd l D cA r rmP R) (hrm : ∀ k, k ≤ 20 → gRm rm rmP k) (hbig : gBig rm) (v : gV) (x1 : Int32) (s0 : Int32) (h : fX3_readNot_84 R v x1 s0 = some (xr, v')) : G v [(0, .ref (r 5)), (1, .int x1)] 84 [.int s0] := by
  unfold fX3_readNot_84 at h
  refine g_istore_n X (ls' := [(3, .int s0), (0, .ref (r 5)), (1, .int x1)]) dX3_readNot_84 rfl (by decide) rfl ?_
  refine g_aload_n X dX3_readNot_85 rfl 1 rfl ?_
  obtain ⟨y13, v14, hc15, h⟩ := gB_inv h
  refine g_callV X (st := []) (st' := []) kcX3_step kvX3_step kl3_29 (gRm_big hbig (by decide)) (mX3_step hc15) hNC_5 (shC_5 _) rfl rfl rfl (Nat.le_of_ble_eq_true rfl) rfl dX3_readNot_86 ?_
  refine g_aload_n X dX3_readNot_89 rfl 1 rfl ?_
  refine g_iload_n X dX3_readNot_90 rfl 2 rfl ?_
  obtain ⟨y16, v17, hc18, h⟩ := gB_inv h
  refine g_callV X (st := []) (st' := [.int y16]) kcX3_readSum kvX3_readSum kl3_55 (hrm _ (by decide)) (HR.2.2.2.1 _ _ _ _ hc18) hNC_5 (shC_5 _) rfl rfl rfl (Nat.le_of_ble_eq_true rfl) rfl dX3_readNot_91 ?_
  refine g_istore_n X (ls' := [(2, .int y16), (3, .int s0), (0, .ref (r 5)), (1, .int x1)]) dX3_readNot_94 rfl (by decide) rfl ?_
  refine g_aload_n X dX3_readNot_95 rfl 2 rfl ?_
  refine g_iload_n X dX3_readNot_96 rfl 1 rfl ?_
  obtain ⟨y19, v20, hc21, h⟩ := gB_inv h
  refine g_callV X (st := []) (st' := []) kcX3_emit kvX3_emit kl3_49 (gRm_big hbig (by decide)) (mX3_emit hc21) hNC_5 (shC_5 _) rfl rfl rfl (Nat.le_of_ble_eq_true rfl) rfl dX3_readNot_97 ?_
  refine g_iload_n X dX3_readNot_100 rfl 0 rfl ?_
  obtain ⟨c, h⟩ := gGd h
  exact g_zretR X c h dX3_readNot_101

set_option maxHeartbeats 4000000 in
set_option maxRecDepth 100000 in
theorem bX3_readNot_66 {l : Launch} {D : va_G} {cA : Nat → ClassId} {r : Nat → Nat} {G : gG} {xr : Int32} {v' : gV} {R : Nat → gV → Int32 → Option (Int32 × gV)} {rmP rm : Room} (X : XC l D cA r RX3 cX3_readNot 4 (some .boolean) rm (some (.int xr)) v' G) (HR : HX3_rd l D cA r rmP R) (hrm : ∀ k, k ≤ 20 → gRm rm rmP k) (hbig : gBig rm) (v : gV) (x1 : Int32) (h : fX3_readNot_66 R v x1 = some (xr, v')) : G v [(0, .ref (r 5)), (1, .int x1)] 66 [] := by
  unfold fX3_readNot_66 at h
  refine g_aload_n X dX3_readNot_66 rfl 0 rfl ?_
  refine g_get X fl3_32 hNC_5 (shC_5 _) rfl dX3_readNot_67 ?_
  refine g_bipush X 60 dX3_readNot_70 (by decide) ?_
  refine g_icmp_ne X 81 dX3_readNot_72 (by decide) (fun c => ?_) (fun c => ?_)
  · replace h := gF c h
    refine g_sipush X 20006 dX3_readNot_81 (by decide) ?_
    exact bX3_readNot_84 X HR hrm hbig  _ _ _  h
  · replace h := gTr c h
    refine g_sipush X 20005 dX3_readNot_75 (by decide) ?_
    refine g_goto X 84 dX3_readNot_78 (by decide) ?_
    exact bX3_readNot_84 X HR hrm hbig  _ _ _  h

set_option maxHeartbeats 4000000 in
set_option maxRecDepth 100000 in
theorem bX3_readNot_0 {l : Launch} {D : va_G} {cA : Nat → ClassId} {r : Nat → Nat} {G : gG} {xr : Int32} {v' : gV} {R : Nat → gV → Int32 → Option (Int32 × gV)} {rmP rm : Room} (X : XC l D cA r RX3 cX3_readNot 4 (some .boolean) rm (some (.int xr)) v' G) (HR : HX3_rd l D cA r rmP R) (hrm : ∀ k, k ≤ 20 → gRm rm rmP k) (hbig : gBig rm) (v : gV) (x1 : Int32) (h : fX3_readNot R v x1 = some (xr, v')) : G v [(0, .ref (r 5)), (1, .int x1)] 0 [] := by
  unfold fX3_readNot at h
  refine g_aload_n X dX3_readNot_0 rfl 0 rfl ?_
  refine g_get X fl3_32 hNC_5 (shC_5 _) rfl dX3_readNot_1 ?_
  refine g_sipush X 305 dX3_readNot_4 (by decide) ?_
  refine g_icmp_ne X 38 dX3_readNot_7 (by decide) (fun c => ?_) (fun c => ?_)
  · replace h := gF c h
    refine g_aload_n X dX3_readNot_38 rfl 0 rfl ?_
    refine g_iload_n X dX3_readNot_39 rfl 1 rfl ?_
    obtain ⟨y1, v2, hc3, h⟩ := gB_inv h
    refine g_callV X (st := []) (st' := [.int y1]) kcX3_readSum kvX3_readSum kl3_55 (hrm _ (by decide)) (HR.2.2.2.1 _ _ _ _ hc3) hNC_5 (shC_5 _) rfl rfl rfl (Nat.le_of_ble_eq_true rfl) rfl dX3_readNot_40 ?_
    refine g_istore_n X (ls' := [(2, .int y1), (0, .ref (r 5)), (1, .int x1)]) dX3_readNot_43 rfl (by decide) rfl ?_
    refine g_iload_n X dX3_readNot_44 rfl 0 rfl ?_
    refine g_if_eq X 100 dX3_readNot_45 (by decide) (fun c => ?_) (fun c => ?_)
    · replace h := gTr c h
      refine g_iload_n X dX3_readNot_100 rfl 0 rfl ?_
      obtain ⟨c, h⟩ := gGd h
      exact g_zretR X c h dX3_readNot_101
    · replace h := gF c h
      refine g_aload_n X dX3_readNot_48 rfl 1 rfl ?_
      refine g_get X fl3_32 hNC_5 (shC_5 _) rfl dX3_readNot_49 ?_
      refine g_bipush X 60 dX3_readNot_52 (by decide) ?_
      refine g_icmp_eq X 66 dX3_readNot_54 (by decide) (fun c => ?_) (fun c => ?_)
      · replace h := gTr c h
        refine g_sub X [1, 2] (ls' := [(0, .ref (r 5)), (1, .int x1)]) rfl ?_
        exact bX3_readNot_66 X HR hrm hbig  _ _  h
      · replace h := gF c h
        refine g_aload_n X dX3_readNot_57 rfl 1 rfl ?_
        refine g_get X fl3_32 hNC_5 (shC_5 _) rfl dX3_readNot_58 ?_
        refine g_bipush X 61 dX3_readNot_61 (by decide) ?_
        refine g_icmp_ne X 100 dX3_readNot_63 (by decide) (fun c => ?_) (fun c => ?_)
        · replace h := gF c h
          refine g_iload_n X dX3_readNot_100 rfl 0 rfl ?_
          obtain ⟨c, h⟩ := gGd h
          exact g_zretR X c h dX3_readNot_101
        · replace h := gTr c h
          refine g_sub X [1, 2] (ls' := [(0, .ref (r 5)), (1, .int x1)]) rfl ?_
          exact bX3_readNot_66 X HR hrm hbig  _ _  h
  · replace h := gTr c h
    refine g_iload_n X dX3_readNot_10 rfl 1 rfl ?_
    refine g_iconst X 5 dX3_readNot_11 (by decide) ?_
    refine g_icmp_lt X 17 dX3_readNot_12 (by decide) (fun c => ?_) (fun c => ?_)
    · replace h := gTr c h
      refine g_aload_n X dX3_readNot_17 rfl 0 rfl ?_
      obtain ⟨y4, v5, hc6, h⟩ := gB_inv h
      refine g_callV X (st := []) (st' := []) kcX3_step kvX3_step kl3_29 (gRm_big hbig (by decide)) (mX3_step hc6) hNC_5 (shC_5 _) rfl rfl rfl (Nat.le_of_ble_eq_true rfl) rfl dX3_readNot_18 ?_
      refine g_aload_n X dX3_readNot_21 rfl 0 rfl ?_
      refine g_iload_n X dX3_readNot_22 rfl 1 rfl ?_
      refine g_iconst X 1 dX3_readNot_23 (by decide) ?_
      refine g_iadd X dX3_readNot_24 ?_
      obtain ⟨y7, v8, hc9, h⟩ := gB_inv h
      refine g_callV X (st := []) (st' := [.int y7]) kcX3_readNot kvX3_readNot kl3_52 (hrm _ (by decide)) (HR.2.2.1 _ _ _ _ hc9) hNC_5 (shC_5 _) rfl rfl rfl (Nat.le_of_ble_eq_true rfl) rfl dX3_readNot_25 ?_
      refine g_istore_n X (ls' := [(2, .int y7), (0, .ref (r 5)), (1, .int x1)]) dX3_readNot_28 rfl (by decide) rfl ?_
      refine g_aload_n X dX3_readNot_29 rfl 1 rfl ?_
      refine g_sipush X 20001 dX3_readNot_30 (by decide) ?_
      obtain ⟨y10, v11, hc12, h⟩ := gB_inv h
      refine g_callV X (st := []) (st' := []) kcX3_emit kvX3_emit kl3_49 (gRm_big hbig (by decide)) (mX3_emit hc12) hNC_5 (shC_5 _) rfl rfl rfl (Nat.le_of_ble_eq_true rfl) rfl dX3_readNot_33 ?_
      refine g_iload_n X dX3_readNot_36 rfl 0 rfl ?_
      obtain ⟨c, h⟩ := gGd h
      exact g_zretR X c h dX3_readNot_37
    · replace h := gF c h
      refine g_iconst X 0 dX3_readNot_15 (by decide) ?_
      exact g_zretR X (Or.inl rfl) h dX3_readNot_16

theorem moX3_readNot {l : Launch} {D : va_G} {cA : Nat → ClassId} {r : Nat → Nat} {v : gV} {x1 : Int32} {xr : Int32} {v' : gV} {R : Nat → gV → Int32 → Option (Int32 × gV)} {rmP rm : Room} (HR : HX3_rd l D cA r rmP R) (hrm : ∀ k, k ≤ 20 → gRm rm rmP k) (hbig : gBig rm) (h : fX3_readNot R v x1 = some (xr, v')) : Ct l D (tysC cA) (shC cA r) 50 r (ZC r) yX3_readNot cX3_readNot 4 (some .boolean) rm [.ref (r 5), .int x1] v (some (.int xr)) v' := ct_of plX3 ZC_ok (Nat.le_of_ble_eq_true rfl) rfl (fun _ X => bX3_readNot_0 X HR hrm hbig v x1 h)

set_option maxHeartbeats 4000000 in
set_option maxRecDepth 100000 in
theorem bX3_readAnd_8 {l : Launch} {D : va_G} {cA : Nat → ClassId} {r : Nat → Nat} {G : gG} {xr : Int32} {v' : gV} {R : Nat → gV → Int32 → Option (Int32 × gV)} {rmP rm : Room} (X : XC l D cA r RX3 cX3_readAnd 4 (some .boolean) rm (some (.int xr)) v' G) (HR : HX3_rd l D cA r rmP R) (hrm : ∀ k, k ≤ 20 → gRm rm rmP k) (hbig : gBig rm) : ∀ (n : Nat) (v : gV) (x1 : Int32) (x2 : Int32) (x3 : Int32), fX3_readAnd_8 R n v x1 x2 x3 = some (xr, v') → G v [(0, .ref (r 5)), (1, .int x1), (2, .int x2), (3, .int x3)] 8 [] := by
  intro n
  induction n with
  | zero => intro v x1 x2 x3 h; rw [fX3_readAnd_8] at h; cases h
  | succ n ih =>
    intro v x1 x2 x3 h
    rw [fX3_readAnd_8] at h
    refine g_iload_n X dX3_readAnd_8 rfl 3 rfl ?_
    refine g_sipush X 160 dX3_readAnd_9 (by decide) ?_
    refine g_icmp_ge X 52 dX3_readAnd_12 (by decide) (fun c => ?_) (fun c => ?_)
    · replace h := gTr c h
      refine g_iload_n X dX3_readAnd_52 rfl 2 rfl ?_
      obtain ⟨c, h⟩ := gGd h
      exact g_zretR X c h dX3_readAnd_53
    · replace h := gF c h
      refine g_iload_n X dX3_readAnd_15 rfl 2 rfl ?_
      refine g_if_eq X 52 dX3_readAnd_16 (by decide) (fun c => ?_) (fun c => ?_)
      · replace h := gTr c h
        refine g_iload_n X dX3_readAnd_52 rfl 2 rfl ?_
        obtain ⟨c, h⟩ := gGd h
        exact g_zretR X c h dX3_readAnd_53
      · replace h := gF c h
        refine g_aload_n X dX3_readAnd_19 rfl 0 rfl ?_
        refine g_get X fl3_32 hNC_5 (shC_5 _) rfl dX3_readAnd_20 ?_
        refine g_sipush X 304 dX3_readAnd_23 (by decide) ?_
        refine g_icmp_ne X 52 dX3_readAnd_26 (by decide) (fun c => ?_) (fun c => ?_)
        · replace h := gF c h
          refine g_iload_n X dX3_readAnd_52 rfl 2 rfl ?_
          obtain ⟨c, h⟩ := gGd h
          exact g_zretR X c h dX3_readAnd_53
        · replace h := gTr c h
          refine g_aload_n X dX3_readAnd_29 rfl 0 rfl ?_
          obtain ⟨y4, v5, hc6, h⟩ := gB_inv h
          refine g_callV X (st := []) (st' := []) kcX3_step kvX3_step kl3_29 (gRm_big hbig (by decide)) (mX3_step hc6) hNC_5 (shC_5 _) rfl rfl rfl (Nat.le_of_ble_eq_true rfl) rfl dX3_readAnd_30 ?_
          refine g_aload_n X dX3_readAnd_33 rfl 0 rfl ?_
          refine g_iload_n X dX3_readAnd_34 rfl 1 rfl ?_
          obtain ⟨y7, v8, hc9, h⟩ := gB_inv h
          refine g_callV X (st := []) (st' := [.int y7]) kcX3_readNot kvX3_readNot kl3_52 (hrm _ (by decide)) (HR.2.2.1 _ _ _ _ hc9) hNC_5 (shC_5 _) rfl rfl rfl (Nat.le_of_ble_eq_true rfl) rfl dX3_readAnd_35 ?_
          refine g_istore_n X (ls' := [(2, .int y7), (0, .ref (r 5)), (1, .int x1), (3, .int x3)]) dX3_readAnd_38 rfl (by decide) rfl ?_
          refine g_aload_n X dX3_readAnd_39 rfl 1 rfl ?_
          refine g_sipush X 20007 dX3_readAnd_40 (by decide) ?_
          obtain ⟨y10, v11, hc12, h⟩ := gB_inv h
          refine g_callV X (st := []) (st' := []) kcX3_emit kvX3_emit kl3_49 (gRm_big hbig (by decide)) (mX3_emit hc12) hNC_5 (shC_5 _) rfl rfl rfl (Nat.le_of_ble_eq_true rfl) rfl dX3_readAnd_43 ?_
          refine g_iinc X (x3 + 1) [(3, .int (x3 + 1)), (2, .int y7), (0, .ref (r 5)), (1, .int x1)] dX3_readAnd_46 3 rfl rfl (by decide) rfl ?_
          refine g_goto X 8 dX3_readAnd_49 (by decide) ?_
          refine g_sub X [2, 3, 1, 0] (ls' := [(0, .ref (r 5)), (1, .int x1), (2, .int y7), (3, .int (x3 + 1))]) rfl ?_
          exact ih _ _ _ _  h

set_option maxHeartbeats 4000000 in
set_option maxRecDepth 100000 in
theorem bX3_readAnd_0 {l : Launch} {D : va_G} {cA : Nat → ClassId} {r : Nat → Nat} {G : gG} {xr : Int32} {v' : gV} {R : Nat → gV → Int32 → Option (Int32 × gV)} {rmP rm : Room} (X : XC l D cA r RX3 cX3_readAnd 4 (some .boolean) rm (some (.int xr)) v' G) (HR : HX3_rd l D cA r rmP R) (hrm : ∀ k, k ≤ 20 → gRm rm rmP k) (hbig : gBig rm) (v : gV) (x1 : Int32) (h : fX3_readAnd R v x1 = some (xr, v')) : G v [(0, .ref (r 5)), (1, .int x1)] 0 [] := by
  unfold fX3_readAnd at h
  refine g_aload_n X dX3_readAnd_0 rfl 0 rfl ?_
  refine g_iload_n X dX3_readAnd_1 rfl 1 rfl ?_
  obtain ⟨y1, v2, hc3, h⟩ := gB_inv h
  refine g_callV X (st := []) (st' := [.int y1]) kcX3_readNot kvX3_readNot kl3_52 (hrm _ (by decide)) (HR.2.2.1 _ _ _ _ hc3) hNC_5 (shC_5 _) rfl rfl rfl (Nat.le_of_ble_eq_true rfl) rfl dX3_readAnd_2 ?_
  refine g_istore_n X (ls' := [(2, .int y1), (0, .ref (r 5)), (1, .int x1)]) dX3_readAnd_5 rfl (by decide) rfl ?_
  refine g_iconst X 0 dX3_readAnd_6 (by decide) ?_
  refine g_istore_n X (ls' := [(3, .int 0), (2, .int y1), (0, .ref (r 5)), (1, .int x1)]) dX3_readAnd_7 rfl (by decide) rfl ?_
  refine g_sub X [2, 3, 1, 0] (ls' := [(0, .ref (r 5)), (1, .int x1), (2, .int y1), (3, .int 0)]) rfl ?_
  exact bX3_readAnd_8 X HR hrm hbig  _ _ _ _ _  h

theorem moX3_readAnd {l : Launch} {D : va_G} {cA : Nat → ClassId} {r : Nat → Nat} {v : gV} {x1 : Int32} {xr : Int32} {v' : gV} {R : Nat → gV → Int32 → Option (Int32 × gV)} {rmP rm : Room} (HR : HX3_rd l D cA r rmP R) (hrm : ∀ k, k ≤ 20 → gRm rm rmP k) (hbig : gBig rm) (h : fX3_readAnd R v x1 = some (xr, v')) : Ct l D (tysC cA) (shC cA r) 50 r (ZC r) yX3_readAnd cX3_readAnd 4 (some .boolean) rm [.ref (r 5), .int x1] v (some (.int xr)) v' := ct_of plX3 ZC_ok (Nat.le_of_ble_eq_true rfl) rfl (fun _ X => bX3_readAnd_0 X HR hrm hbig v x1 h)

set_option maxHeartbeats 4000000 in
set_option maxRecDepth 100000 in
theorem bX3_readOr_8 {l : Launch} {D : va_G} {cA : Nat → ClassId} {r : Nat → Nat} {G : gG} {xr : Int32} {v' : gV} {R : Nat → gV → Int32 → Option (Int32 × gV)} {rmP rm : Room} (X : XC l D cA r RX3 cX3_readOr 4 (some .boolean) rm (some (.int xr)) v' G) (HR : HX3_rd l D cA r rmP R) (hrm : ∀ k, k ≤ 20 → gRm rm rmP k) (hbig : gBig rm) : ∀ (n : Nat) (v : gV) (x1 : Int32) (x2 : Int32) (x3 : Int32), fX3_readOr_8 R n v x1 x2 x3 = some (xr, v') → G v [(0, .ref (r 5)), (1, .int x1), (2, .int x2), (3, .int x3)] 8 [] := by
  intro n
  induction n with
  | zero => intro v x1 x2 x3 h; rw [fX3_readOr_8] at h; cases h
  | succ n ih =>
    intro v x1 x2 x3 h
    rw [fX3_readOr_8] at h
    refine g_iload_n X dX3_readOr_8 rfl 3 rfl ?_
    refine g_sipush X 160 dX3_readOr_9 (by decide) ?_
    refine g_icmp_ge X 52 dX3_readOr_12 (by decide) (fun c => ?_) (fun c => ?_)
    · replace h := gTr c h
      refine g_iload_n X dX3_readOr_52 rfl 2 rfl ?_
      obtain ⟨c, h⟩ := gGd h
      exact g_zretR X c h dX3_readOr_53
    · replace h := gF c h
      refine g_iload_n X dX3_readOr_15 rfl 2 rfl ?_
      refine g_if_eq X 52 dX3_readOr_16 (by decide) (fun c => ?_) (fun c => ?_)
      · replace h := gTr c h
        refine g_iload_n X dX3_readOr_52 rfl 2 rfl ?_
        obtain ⟨c, h⟩ := gGd h
        exact g_zretR X c h dX3_readOr_53
      · replace h := gF c h
        refine g_aload_n X dX3_readOr_19 rfl 0 rfl ?_
        refine g_get X fl3_32 hNC_5 (shC_5 _) rfl dX3_readOr_20 ?_
        refine g_sipush X 303 dX3_readOr_23 (by decide) ?_
        refine g_icmp_ne X 52 dX3_readOr_26 (by decide) (fun c => ?_) (fun c => ?_)
        · replace h := gF c h
          refine g_iload_n X dX3_readOr_52 rfl 2 rfl ?_
          obtain ⟨c, h⟩ := gGd h
          exact g_zretR X c h dX3_readOr_53
        · replace h := gTr c h
          refine g_aload_n X dX3_readOr_29 rfl 0 rfl ?_
          obtain ⟨y4, v5, hc6, h⟩ := gB_inv h
          refine g_callV X (st := []) (st' := []) kcX3_step kvX3_step kl3_29 (gRm_big hbig (by decide)) (mX3_step hc6) hNC_5 (shC_5 _) rfl rfl rfl (Nat.le_of_ble_eq_true rfl) rfl dX3_readOr_30 ?_
          refine g_aload_n X dX3_readOr_33 rfl 0 rfl ?_
          refine g_iload_n X dX3_readOr_34 rfl 1 rfl ?_
          obtain ⟨y7, v8, hc9, h⟩ := gB_inv h
          refine g_callV X (st := []) (st' := [.int y7]) kcX3_readAnd kvX3_readAnd kl3_46 (hrm _ (by decide)) (HR.2.1 _ _ _ _ hc9) hNC_5 (shC_5 _) rfl rfl rfl (Nat.le_of_ble_eq_true rfl) rfl dX3_readOr_35 ?_
          refine g_istore_n X (ls' := [(2, .int y7), (0, .ref (r 5)), (1, .int x1), (3, .int x3)]) dX3_readOr_38 rfl (by decide) rfl ?_
          refine g_aload_n X dX3_readOr_39 rfl 1 rfl ?_
          refine g_sipush X 20008 dX3_readOr_40 (by decide) ?_
          obtain ⟨y10, v11, hc12, h⟩ := gB_inv h
          refine g_callV X (st := []) (st' := []) kcX3_emit kvX3_emit kl3_49 (gRm_big hbig (by decide)) (mX3_emit hc12) hNC_5 (shC_5 _) rfl rfl rfl (Nat.le_of_ble_eq_true rfl) rfl dX3_readOr_43 ?_
          refine g_iinc X (x3 + 1) [(3, .int (x3 + 1)), (2, .int y7), (0, .ref (r 5)), (1, .int x1)] dX3_readOr_46 3 rfl rfl (by decide) rfl ?_
          refine g_goto X 8 dX3_readOr_49 (by decide) ?_
          refine g_sub X [2, 3, 1, 0] (ls' := [(0, .ref (r 5)), (1, .int x1), (2, .int y7), (3, .int (x3 + 1))]) rfl ?_
          exact ih _ _ _ _  h

set_option maxHeartbeats 4000000 in
set_option maxRecDepth 100000 in
theorem bX3_readOr_0 {l : Launch} {D : va_G} {cA : Nat → ClassId} {r : Nat → Nat} {G : gG} {xr : Int32} {v' : gV} {R : Nat → gV → Int32 → Option (Int32 × gV)} {rmP rm : Room} (X : XC l D cA r RX3 cX3_readOr 4 (some .boolean) rm (some (.int xr)) v' G) (HR : HX3_rd l D cA r rmP R) (hrm : ∀ k, k ≤ 20 → gRm rm rmP k) (hbig : gBig rm) (v : gV) (x1 : Int32) (h : fX3_readOr R v x1 = some (xr, v')) : G v [(0, .ref (r 5)), (1, .int x1)] 0 [] := by
  unfold fX3_readOr at h
  refine g_aload_n X dX3_readOr_0 rfl 0 rfl ?_
  refine g_iload_n X dX3_readOr_1 rfl 1 rfl ?_
  obtain ⟨y1, v2, hc3, h⟩ := gB_inv h
  refine g_callV X (st := []) (st' := [.int y1]) kcX3_readAnd kvX3_readAnd kl3_46 (hrm _ (by decide)) (HR.2.1 _ _ _ _ hc3) hNC_5 (shC_5 _) rfl rfl rfl (Nat.le_of_ble_eq_true rfl) rfl dX3_readOr_2 ?_
  refine g_istore_n X (ls' := [(2, .int y1), (0, .ref (r 5)), (1, .int x1)]) dX3_readOr_5 rfl (by decide) rfl ?_
  refine g_iconst X 0 dX3_readOr_6 (by decide) ?_
  refine g_istore_n X (ls' := [(3, .int 0), (2, .int y1), (0, .ref (r 5)), (1, .int x1)]) dX3_readOr_7 rfl (by decide) rfl ?_
  refine g_sub X [2, 3, 1, 0] (ls' := [(0, .ref (r 5)), (1, .int x1), (2, .int y1), (3, .int 0)]) rfl ?_
  exact bX3_readOr_8 X HR hrm hbig  _ _ _ _ _  h

theorem moX3_readOr {l : Launch} {D : va_G} {cA : Nat → ClassId} {r : Nat → Nat} {v : gV} {x1 : Int32} {xr : Int32} {v' : gV} {R : Nat → gV → Int32 → Option (Int32 × gV)} {rmP rm : Room} (HR : HX3_rd l D cA r rmP R) (hrm : ∀ k, k ≤ 20 → gRm rm rmP k) (hbig : gBig rm) (h : fX3_readOr R v x1 = some (xr, v')) : Ct l D (tysC cA) (shC cA r) 50 r (ZC r) yX3_readOr cX3_readOr 4 (some .boolean) rm [.ref (r 5), .int x1] v (some (.int xr)) v' := ct_of plX3 ZC_ok (Nat.le_of_ble_eq_true rfl) rfl (fun _ X => bX3_readOr_0 X HR hrm hbig v x1 h)

def rmX3_rdN (n : Nat) : Room := { frames := n + 20, cells := 0, slots := 0, locals := 60 * n + 600 }
theorem rmX3_rd_1 (n k : Nat) (h : k ≤ 20) : gRm (rmX3_rdN (n + 1)) (rmX3_rdN n) k := ⟨rfl, rfl, by show n + 20 + 1 ≤ n + 1 + 20; omega, by show 8 + (k + 11) + (60 * n + 600) ≤ 60 * (n + 1) + 600; omega⟩
theorem rmX3_rd_2 (n : Nat) : gBig (rmX3_rdN n) := ⟨by show 20 ≤ n + 20; omega, by show 600 ≤ 60 * n + 600; omega⟩
theorem hX3_rd {l : Launch} {D : va_G} {cA : Nat → ClassId} {r : Nat → Nat} : ∀ n : Nat, HX3_rd l D cA r (rmX3_rdN n) (fX3_rd n) := by
  intro n
  induction n with
  | zero =>
    refine ⟨?_, ?_, ?_, ?_, ?_, ?_⟩
    · intro v x1 xr v' h
      rw [fX3_rd] at h
      cases h
    · intro v x1 xr v' h
      rw [fX3_rd] at h
      cases h
    · intro v x1 xr v' h
      rw [fX3_rd] at h
      cases h
    · intro v x1 xr v' h
      rw [fX3_rd] at h
      cases h
    · intro v x1 xr v' h
      rw [fX3_rd] at h
      cases h
    · intro v x1 xr v' h
      rw [fX3_rd] at h
      cases h
  | succ n ih =>
    refine ⟨?_, ?_, ?_, ?_, ?_, ?_⟩
    · intro v x1 xr v' h
      rw [fX3_rd] at h
      exact moX3_readOr ih (rmX3_rd_1 n) (rmX3_rd_2 (n + 1)) h
    · intro v x1 xr v' h
      rw [fX3_rd] at h
      exact moX3_readAnd ih (rmX3_rd_1 n) (rmX3_rd_2 (n + 1)) h
    · intro v x1 xr v' h
      rw [fX3_rd] at h
      exact moX3_readNot ih (rmX3_rd_1 n) (rmX3_rd_2 (n + 1)) h
    · intro v x1 xr v' h
      rw [fX3_rd] at h
      exact moX3_readSum ih (rmX3_rd_1 n) (rmX3_rd_2 (n + 1)) h
    · intro v x1 xr v' h
      rw [fX3_rd] at h
      exact moX3_readTerm ih (rmX3_rd_1 n) (rmX3_rd_2 (n + 1)) h
    · intro v x1 xr v' h
      rw [fX3_rd] at h
      exact moX3_readOne ih (rmX3_rd_1 n) (rmX3_rd_2 (n + 1)) h
def rmX3_readOr : Room := { frames := 84, cells := 0, slots := 0, locals := 4440 }
theorem mX3_readOr {l : Launch} {D : va_G} {cA : Nat → ClassId} {r : Nat → Nat} {v : gV} {x1 : Int32} {xr : Int32} {v' : gV} (h : fX3_rd 64 0 v x1 = some (xr, v')) : Ct l D (tysC cA) (shC cA r) 50 r (ZC r) yX3_readOr cX3_readOr 4 (some .boolean) rmX3_readOr [.ref (r 5), .int x1] v (some (.int xr)) v' := (hX3_rd 64).1 v x1 xr v' h
def rmX3_readAnd : Room := { frames := 84, cells := 0, slots := 0, locals := 4440 }
theorem mX3_readAnd {l : Launch} {D : va_G} {cA : Nat → ClassId} {r : Nat → Nat} {v : gV} {x1 : Int32} {xr : Int32} {v' : gV} (h : fX3_rd 64 1 v x1 = some (xr, v')) : Ct l D (tysC cA) (shC cA r) 50 r (ZC r) yX3_readAnd cX3_readAnd 4 (some .boolean) rmX3_readAnd [.ref (r 5), .int x1] v (some (.int xr)) v' := (hX3_rd 64).2.1 v x1 xr v' h
def rmX3_readNot : Room := { frames := 84, cells := 0, slots := 0, locals := 4440 }
theorem mX3_readNot {l : Launch} {D : va_G} {cA : Nat → ClassId} {r : Nat → Nat} {v : gV} {x1 : Int32} {xr : Int32} {v' : gV} (h : fX3_rd 64 2 v x1 = some (xr, v')) : Ct l D (tysC cA) (shC cA r) 50 r (ZC r) yX3_readNot cX3_readNot 4 (some .boolean) rmX3_readNot [.ref (r 5), .int x1] v (some (.int xr)) v' := (hX3_rd 64).2.2.1 v x1 xr v' h
def rmX3_readSum : Room := { frames := 84, cells := 0, slots := 0, locals := 4440 }
theorem mX3_readSum {l : Launch} {D : va_G} {cA : Nat → ClassId} {r : Nat → Nat} {v : gV} {x1 : Int32} {xr : Int32} {v' : gV} (h : fX3_rd 64 3 v x1 = some (xr, v')) : Ct l D (tysC cA) (shC cA r) 50 r (ZC r) yX3_readSum cX3_readSum 5 (some .boolean) rmX3_readSum [.ref (r 5), .int x1] v (some (.int xr)) v' := (hX3_rd 64).2.2.2.1 v x1 xr v' h
def rmX3_readTerm : Room := { frames := 84, cells := 0, slots := 0, locals := 4440 }
theorem mX3_readTerm {l : Launch} {D : va_G} {cA : Nat → ClassId} {r : Nat → Nat} {v : gV} {x1 : Int32} {xr : Int32} {v' : gV} (h : fX3_rd 64 4 v x1 = some (xr, v')) : Ct l D (tysC cA) (shC cA r) 50 r (ZC r) yX3_readTerm cX3_readTerm 4 (some .boolean) rmX3_readTerm [.ref (r 5), .int x1] v (some (.int xr)) v' := (hX3_rd 64).2.2.2.2.1 v x1 xr v' h
def rmX3_readOne : Room := { frames := 84, cells := 0, slots := 0, locals := 4440 }
theorem mX3_readOne {l : Launch} {D : va_G} {cA : Nat → ClassId} {r : Nat → Nat} {v : gV} {x1 : Int32} {xr : Int32} {v' : gV} (h : fX3_rd 64 5 v x1 = some (xr, v')) : Ct l D (tysC cA) (shC cA r) 50 r (ZC r) yX3_readOne cX3_readOne 4 (some .boolean) rmX3_readOne [.ref (r 5), .int x1] v (some (.int xr)) v' := (hX3_rd 64).2.2.2.2.2 v x1 xr v' h

def rmX3_readInto : Room := { frames := 85, cells := 0, slots := 0, locals := 4463 }

set_option maxHeartbeats 4000000 in
set_option maxRecDepth 100000 in
theorem bX3_readInto_21 {l : Launch} {D : va_G} {cA : Nat → ClassId} {r : Nat → Nat} {G : gG} {xr : Int32} {v' : gV} (X : XC l D cA r RX3 cX3_readInto 3 (some .int) rmX3_readInto (some (.int xr)) v' G) : ∀ (n : Nat) (v : gV) (ix1 : Nat) (x2 : Int32), ix1 < 6 → fX3_readInto_21 n v ix1 x2 = some (xr, v') → G v [(0, .ref (r 5)), (1, .ref (r (31 + ix1))), (2, .int x2)] 21 [] := by
  intro n
  induction n with
  | zero => intro v ix1 x2 hix1 h; rw [fX3_readInto_21] at h; cases h
  | succ n ih =>
    intro v ix1 x2 hix1 h
    rw [fX3_readInto_21] at h
    refine g_iload_n X dX3_readInto_21 rfl 2 rfl ?_
    refine g_iconst X 3 dX3_readInto_22 (by decide) ?_
    refine g_icmp_ge X 84 dX3_readInto_23 (by decide) (fun c => ?_) (fun c => ?_)
    · replace h := gTr c h
      refine g_aload_n X dX3_readInto_84 rfl 0 rfl ?_
      refine g_get X fl3_32 hNC_5 (shC_5 _) rfl dX3_readInto_85 ?_
      refine g_if_ne X 95 dX3_readInto_88 (by decide) (fun c => ?_) (fun c => ?_)
      · replace h := gF c h
        refine g_aload_n X dX3_readInto_95 rfl 0 rfl ?_
        refine g_get X fl3_35 hNC_5 (shC_5 _) rfl dX3_readInto_96 ?_
        exact g_iretR X h dX3_readInto_99
      · replace h := gTr c h
        refine g_iconst X (-1) dX3_readInto_91 (by decide) ?_
        refine g_goto X 99 dX3_readInto_92 (by decide) ?_
        exact g_iretR X h dX3_readInto_99
    · replace h := gF c h
      refine g_aload_n X dX3_readInto_26 rfl 0 rfl ?_
      refine g_get X fl3_32 hNC_5 (shC_5 _) rfl dX3_readInto_27 ?_
      refine g_sipush X 300 dX3_readInto_30 (by decide) ?_
      refine g_iload_n X dX3_readInto_33 rfl 2 rfl ?_
      refine g_iadd X dX3_readInto_34 ?_
      refine g_icmp_eq X 43 dX3_readInto_35 (by decide) (fun c => ?_) (fun c => ?_)
      · replace h := gTr c h
        refine g_aload_n X dX3_readInto_43 rfl 0 rfl ?_
        obtain ⟨y4, v5, hc6, h⟩ := gB_inv h
        refine g_callV X (st := []) (st' := []) kcX3_step kvX3_step kl3_29 (⟨rfl, rfl, by decide, by decide⟩) (mX3_step hc6) hNC_5 (shC_5 _) rfl rfl rfl (Nat.le_of_ble_eq_true rfl) rfl dX3_readInto_44 ?_
        refine g_aload_n X dX3_readInto_47 rfl 0 rfl ?_
        refine g_iconst X 0 dX3_readInto_48 (by decide) ?_
        obtain ⟨y7, v8, hc9, h⟩ := gB_inv h
        refine g_callV X (st := []) (st' := [.int y7]) kcX3_readOr kvX3_readOr kl3_38 (⟨rfl, rfl, by decide, by decide⟩) (mX3_readOr hc9) hNC_5 (shC_5 _) rfl rfl rfl (Nat.le_of_ble_eq_true rfl) rfl dX3_readInto_49 ?_
        refine g_if_eq X 64 dX3_readInto_52 (by decide) (fun c => ?_) (fun c => ?_)
        · replace h := gTr c h
          refine g_aload_n X dX3_readInto_64 rfl 0 rfl ?_
          refine g_get X fl3_35 hNC_5 (shC_5 _) rfl dX3_readInto_65 ?_
          exact g_iretR X h dX3_readInto_68
        · replace h := gF c h
          refine g_aload_n X dX3_readInto_55 rfl 0 rfl ?_
          refine g_get X fl3_32 hNC_5 (shC_5 _) rfl dX3_readInto_56 ?_
          refine g_bipush X 59 dX3_readInto_59 (by decide) ?_
          refine g_icmp_eq X 69 dX3_readInto_61 (by decide) (fun c => ?_) (fun c => ?_)
          · replace h := gTr c h
            refine g_aload_n X dX3_readInto_69 rfl 0 rfl ?_
            obtain ⟨y10, v11, hc12, h⟩ := gB_inv h
            refine g_callV X (st := []) (st' := []) kcX3_step kvX3_step kl3_29 (⟨rfl, rfl, by decide, by decide⟩) (mX3_step hc12) hNC_5 (shC_5 _) rfl rfl rfl (Nat.le_of_ble_eq_true rfl) rfl dX3_readInto_70 ?_
            refine g_aload_n X dX3_readInto_73 rfl 1 rfl ?_
            refine g_iload_n X dX3_readInto_74 rfl 2 rfl ?_
            obtain ⟨y13, v14, hc15, h⟩ := gB_inv h
            refine g_callV X (st := []) (st' := []) kcX4_endPart kvX4_endPart kl3_42 (⟨rfl, rfl, by decide, by decide⟩) (mX4_endPart hix1 hc15) (shC_text_lt hix1) (shC_text hix1 _) rfl rfl rfl (Nat.le_of_ble_eq_true rfl) rfl dX3_readInto_75 ?_
            refine g_iinc X (x2 + 1) [(2, .int (x2 + 1)), (0, .ref (r 5)), (1, .ref (r (31 + ix1)))] dX3_readInto_78 2 rfl rfl (by decide) rfl ?_
            refine g_goto X 21 dX3_readInto_81 (by decide) ?_
            refine g_sub X [1, 2, 0] (ls' := [(0, .ref (r 5)), (1, .ref (r (31 + ix1))), (2, .int (x2 + 1))]) rfl ?_
            exact ih _ _ _ hix1 h
          · replace h := gF c h
            refine g_aload_n X dX3_readInto_64 rfl 0 rfl ?_
            refine g_get X fl3_35 hNC_5 (shC_5 _) rfl dX3_readInto_65 ?_
            exact g_iretR X h dX3_readInto_68
      · replace h := gF c h
        refine g_aload_n X dX3_readInto_38 rfl 0 rfl ?_
        refine g_get X fl3_35 hNC_5 (shC_5 _) rfl dX3_readInto_39 ?_
        exact g_iretR X h dX3_readInto_42

set_option maxHeartbeats 4000000 in
set_option maxRecDepth 100000 in
theorem bX3_readInto_0 {l : Launch} {D : va_G} {cA : Nat → ClassId} {r : Nat → Nat} {G : gG} {xr : Int32} {v' : gV} (X : XC l D cA r RX3 cX3_readInto 3 (some .int) rmX3_readInto (some (.int xr)) v' G) (v : gV) (t1 : Nat) (ht1 : t1 < 6) (h : fX3_readInto v t1 = some (xr, v')) : G v [(0, .ref (r 5)), (1, .ref (r (31 + t1)))] 0 [] := by
  unfold fX3_readInto at h
  refine g_aload_n X dX3_readInto_0 rfl 0 rfl ?_
  refine g_aload_n X dX3_readInto_1 rfl 1 rfl ?_
  refine g_putT X fp3_19 ht1 dX3_readInto_2 ?_
  refine g_aload_n X dX3_readInto_5 rfl 1 rfl ?_
  refine g_iconst X 0 dX3_readInto_6 (by decide) ?_
  refine g_put X (fsC4 r t1) fp3_23 (shC_text_lt ht1) (shC_text ht1) (fun _ => rfl) (Nat.le_of_ble_eq_true rfl) dX3_readInto_7 ?_
  refine g_aload_n X dX3_readInto_10 rfl 0 rfl ?_
  refine g_iconst X 0 dX3_readInto_11 (by decide) ?_
  refine g_put X (fsC3 r) fp3_26 hNC_5 (shC_5) (fun _ => rfl) (Nat.le_of_ble_eq_true rfl) dX3_readInto_12 ?_
  refine g_aload_n X dX3_readInto_15 rfl 0 rfl ?_
  obtain ⟨y1, v2, hc3, h⟩ := gB_inv h
  refine g_callV X (st := []) (st' := []) kcX3_step kvX3_step kl3_29 (⟨rfl, rfl, by decide, by decide⟩) (mX3_step hc3) hNC_5 (shC_5 _) rfl rfl rfl (Nat.le_of_ble_eq_true rfl) rfl dX3_readInto_16 ?_
  refine g_iconst X 0 dX3_readInto_19 (by decide) ?_
  refine g_istore_n X (ls' := [(2, .int 0), (0, .ref (r 5)), (1, .ref (r (31 + t1)))]) dX3_readInto_20 rfl (by decide) rfl ?_
  refine g_sub X [1, 2, 0] (ls' := [(0, .ref (r 5)), (1, .ref (r (31 + t1))), (2, .int 0)]) rfl ?_
  exact bX3_readInto_21 X  _ _ _ _ ht1 h

theorem mX3_readInto {l : Launch} {D : va_G} {cA : Nat → ClassId} {r : Nat → Nat} {v : gV} {t1 : Nat} {xr : Int32} {v' : gV} (ht1 : t1 < 6) (h : fX3_readInto v t1 = some (xr, v')) : Ct l D (tysC cA) (shC cA r) 50 r (ZC r) yX3_readInto cX3_readInto 3 (some .int) rmX3_readInto [.ref (r 5), .ref (r (31 + t1))] v (some (.int xr)) v' := ct_of plX3 ZC_ok (Nat.le_of_ble_eq_true rfl) rfl (fun _ X => bX3_readInto_0 X v t1 ht1 h)
