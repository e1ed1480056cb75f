/-! constructors: what the tables say; the small ones (laid by wip/whole/ctor.py) -/
theorem kob1 : Cond.instanceMethod Lib.objectInit ∈ gw := by decide +kernel
theorem kob2 : Cond.code Lib.objectInit ⟨#[0xb1]⟩ 1 none ∈ gw := by decide +kernel
theorem kai : Cond.arrayClass .int ∈ gw := by decide +kernel
theorem kob_0_3 : Cond.methodLink RX0 3 Lib.objectInit ∈ gw := by decide +kernel
theorem kpf0_9 : Cond.fieldLink RX0 9 (TX0 0).1 (TX0 0).2.1 (TX0 0).2.2.1 ∈ gw := by decide +kernel
theorem kpf0_15 : Cond.fieldLink RX0 15 (TX0 1).1 (TX0 1).2.1 (TX0 1).2.2.1 ∈ gw := by decide +kernel
theorem kpf0_18 : Cond.fieldLink RX0 18 (TX0 2).1 (TX0 2).2.1 (TX0 2).2.2.1 ∈ gw := by decide +kernel
theorem kob_1_3 : Cond.methodLink RX1 3 Lib.objectInit ∈ gw := by decide +kernel
theorem kpf1_9 : Cond.fieldLink RX1 9 (TX1 0).1 (TX1 0).2.1 (TX1 0).2.2.1 ∈ gw := by decide +kernel
theorem kpf1_15 : Cond.fieldLink RX1 15 (TX1 1).1 (TX1 1).2.1 (TX1 1).2.2.1 ∈ gw := by decide +kernel
theorem kpf1_18 : Cond.fieldLink RX1 18 (TX1 2).1 (TX1 2).2.1 (TX1 2).2.2.1 ∈ gw := by decide +kernel
theorem kpf1_21 : Cond.fieldLink RX1 21 (TX1 3).1 (TX1 3).2.1 (TX1 3).2.2.1 ∈ gw := by decide +kernel
theorem kob_3_3 : Cond.methodLink RX3 3 Lib.objectInit ∈ gw := by decide +kernel
theorem kpf3_9 : Cond.fieldLink RX3 9 (TX3 0).1 (TX3 0).2.1 (TX3 0).2.2.1 ∈ gw := by decide +kernel
theorem kob_4_3 : Cond.methodLink RX4 3 Lib.objectInit ∈ gw := by decide +kernel
theorem kpf4_9 : Cond.fieldLink RX4 9 (TX4 0).1 (TX4 0).2.1 (TX4 0).2.2.1 ∈ gw := by decide +kernel
theorem kpf4_15 : Cond.fieldLink RX4 15 (TX4 1).1 (TX4 1).2.1 (TX4 1).2.2.1 ∈ gw := by decide +kernel
theorem kpf4_18 : Cond.fieldLink RX4 18 (TX4 2).1 (TX4 2).2.1 (TX4 2).2.2.1 ∈ gw := by decide +kernel
theorem kob_2_3 : Cond.methodLink RX2 3 Lib.objectInit ∈ gw := by decide +kernel
theorem kmn2_9 : Cond.classLink RX2 9 "[[I" ∈ gw := by decide +kernel
theorem kpf2_11 : Cond.fieldLink RX2 11 (TX2 0).1 (TX2 0).2.1 (TX2 0).2.2.1 ∈ gw := by decide +kernel
theorem kpf2_16 : Cond.fieldLink RX2 16 (TX2 1).1 (TX2 1).2.1 (TX2 1).2.2.1 ∈ gw := by decide +kernel
theorem kpf2_20 : Cond.fieldLink RX2 20 (TX2 2).1 (TX2 2).2.1 (TX2 2).2.2.1 ∈ gw := by decide +kernel
theorem kob_5_1 : Cond.methodLink RX5 1 Lib.objectInit ∈ gw := by decide +kernel
theorem kpf5_9 : Cond.fieldLink RX5 9 (TX5 0).1 (TX5 0).2.1 (TX5 0).2.2.1 ∈ gw := by decide +kernel
theorem kpf5_13 : Cond.fieldLink RX5 13 (TX5 1).1 (TX5 1).2.1 (TX5 1).2.2.1 ∈ gw := by decide +kernel
theorem kmn5_16 : Cond.classLink RX5 16 "[[I" ∈ gw := by decide +kernel
theorem kpf5_18 : Cond.fieldLink RX5 18 (TX5 2).1 (TX5 2).2.1 (TX5 2).2.2.1 ∈ gw := by decide +kernel
theorem kcl5_21 : Cond.classLink RX5 21 RX1 ∈ gw := by decide +kernel
theorem kin1 : Cond.instantiable RX1 5 ∈ gw := by decide +kernel
theorem kiz1 : Cond.initialized RX1 ∈ gw := by decide +kernel
theorem kdf1 : ∀ j, j < 5 → defaultValue (tyX1 j) = vp_V [.null, .null, .null, .null, .int 0] j := fun j hj => by rcases (show j = 0 ∨ j = 1 ∨ j = 2 ∨ j = 3 ∨ j = 4 by omega) with rfl | rfl | rfl | rfl | rfl <;> rfl
theorem kci1 : gCal yX1_init cX1_init 1 none 0 := ⟨by decide +kernel, by decide +kernel, by decide +kernel, by decide +kernel, by decide +kernel⟩
theorem kii1 : Cond.instanceMethod yX1_init ∈ gw := by decide +kernel
theorem kli5_23 : gLnk RX5 23 yX1_init := by first | exact Or.inl (by decide +kernel) | exact Or.inr ⟨"ThreeEmpties", by decide +kernel⟩
theorem kpf5_24 : Cond.fieldLink RX5 24 (TX5 3).1 (TX5 3).2.1 (TX5 3).2.2.1 ∈ gw := by decide +kernel
theorem kcl5_28 : Cond.classLink RX5 28 RX3 ∈ gw := by decide +kernel
theorem kin3 : Cond.instantiable RX3 7 ∈ gw := by decide +kernel
theorem kiz3 : Cond.initialized RX3 ∈ gw := by decide +kernel
theorem kdf3 : ∀ j, j < 7 → defaultValue (tyX3 j) = vp_V [.null, .int 0, .int 0, .int 0, .int 0, .int 0, .null] j := fun j hj => by rcases (show j = 0 ∨ j = 1 ∨ j = 2 ∨ j = 3 ∨ j = 4 ∨ j = 5 ∨ j = 6 by omega) with rfl | rfl | rfl | rfl | rfl | rfl | rfl <;> rfl
theorem kci3 : gCal yX3_init cX3_init 1 none 0 := ⟨by decide +kernel, by decide +kernel, by decide +kernel, by decide +kernel, by decide +kernel⟩
theorem kii3 : Cond.instanceMethod yX3_init ∈ gw := by decide +kernel
theorem kli5_30 : gLnk RX5 30 yX3_init := by first | exact Or.inl (by decide +kernel) | exact Or.inr ⟨"ThreeEmpties", by decide +kernel⟩
theorem kpf5_31 : Cond.fieldLink RX5 31 (TX5 4).1 (TX5 4).2.1 (TX5 4).2.2.1 ∈ gw := by decide +kernel
theorem kaq5_35 : Cond.classLink RX5 35 "ThreeEmpties$Text" ∈ gw := by decide +kernel
theorem kpf5_37 : Cond.fieldLink RX5 37 (TX5 5).1 (TX5 5).2.1 (TX5 5).2.2.1 ∈ gw := by decide +kernel
theorem kcl5_41 : Cond.classLink RX5 41 RX2 ∈ gw := by decide +kernel
theorem kin2 : Cond.instantiable RX2 3 ∈ gw := by decide +kernel
theorem kiz2 : Cond.initialized RX2 ∈ gw := by decide +kernel
theorem kdf2 : ∀ j, j < 3 → defaultValue (tyX2 j) = vp_V [.null, .null, .null] j := fun j hj => by rcases (show j = 0 ∨ j = 1 ∨ j = 2 by omega) with rfl | rfl | rfl <;> rfl
theorem kci2 : gCal yX2_init cX2_init 1 none 0 := ⟨by decide +kernel, by decide +kernel, by decide +kernel, by decide +kernel, by decide +kernel⟩
theorem kii2 : Cond.instanceMethod yX2_init ∈ gw := by decide +kernel
theorem kli5_43 : gLnk RX5 43 yX2_init := by first | exact Or.inl (by decide +kernel) | exact Or.inr ⟨"ThreeEmpties", by decide +kernel⟩
theorem kpf5_44 : Cond.fieldLink RX5 44 (TX5 6).1 (TX5 6).2.1 (TX5 6).2.2.1 ∈ gw := by decide +kernel
theorem kcl5_48 : Cond.classLink RX5 48 RX0 ∈ gw := by decide +kernel
theorem kin0 : Cond.instantiable RX0 6 ∈ gw := by decide +kernel
theorem kiz0 : Cond.initialized RX0 ∈ gw := by decide +kernel
theorem kdf0 : ∀ j, j < 6 → defaultValue (tyX0 j) = vp_V [.null, .null, .null, .int 0, .int 0, .int 0] j := fun j hj => by rcases (show j = 0 ∨ j = 1 ∨ j = 2 ∨ j = 3 ∨ j = 4 ∨ j = 5 by omega) with rfl | rfl | rfl | rfl | rfl | rfl <;> rfl
theorem kci0 : gCal yX0_init cX0_init 1 none 0 := ⟨by decide +kernel, by decide +kernel, by decide +kernel, by decide +kernel, by decide +kernel⟩
theorem kii0 : Cond.instanceMethod yX0_init ∈ gw := by decide +kernel
theorem kli5_50 : gLnk RX5 50 yX0_init := by first | exact Or.inl (by decide +kernel) | exact Or.inr ⟨"ThreeEmpties", by decide +kernel⟩
theorem kpf5_51 : Cond.fieldLink RX5 51 (TX5 7).1 (TX5 7).2.1 (TX5 7).2.2.1 ∈ gw := by decide +kernel
theorem kgf5_37 : gFld RX5 37 5 5 := ⟨RX5, TX5, 12, rfl, inX5, by decide, Or.inl (by decide +kernel)⟩
theorem kcl5_35 : Cond.classLink RX5 35 RX4 ∈ gw := by decide +kernel
theorem kin4 : Cond.instantiable RX4 4 ∈ gw := by decide +kernel
theorem kiz4 : Cond.initialized RX4 ∈ gw := by decide +kernel
theorem kdf4 : ∀ j, j < 4 → defaultValue (tyX4 j) = vp_V [.null, .null, .null, .int 0] j := fun j hj => by rcases (show j = 0 ∨ j = 1 ∨ j = 2 ∨ j = 3 by omega) with rfl | rfl | rfl | rfl <;> rfl
theorem kci4 : gCal yX4_init cX4_init 2 none 1 := ⟨by decide +kernel, by decide +kernel, by decide +kernel, by decide +kernel, by decide +kernel⟩
theorem kii4 : Cond.instanceMethod yX4_init ∈ gw := by decide +kernel
theorem kli5_55 : gLnk RX5 55 yX4_init := by first | exact Or.inl (by decide +kernel) | exact Or.inr ⟨"ThreeEmpties", by decide +kernel⟩
theorem klb5_58 : gLnk RX5 58 yX4_becomeConstant := by first | exact Or.inl (by decide +kernel) | exact Or.inr ⟨"ThreeEmpties", by decide +kernel⟩
theorem kcb4 : gCal yX4_becomeConstant cX4_becomeConstant 4 none 3 := ⟨by decide +kernel, by decide +kernel, by decide +kernel, by decide +kernel, by decide +kernel⟩
theorem kvb4 : gVir yX4_becomeConstant := ⟨by decide +kernel, by decide +kernel⟩
theorem kpp5_62 : gFldP RX5 62 5 8 .int := ⟨RX5, TX5, 12, tyX5, rfl, inX5, by decide, tyX5_ok, nmX5, rfl, rfl, Or.inl (by decide +kernel)⟩
theorem kob_6_1 : Cond.methodLink RX6 1 Lib.objectInit ∈ gw := by decide +kernel
theorem kpf6_7 : Cond.fieldLink RX6 7 (TX6 0).1 (TX6 0).2.1 (TX6 0).2.2.1 ∈ gw := by decide +kernel
theorem kpf6_13 : Cond.fieldLink RX6 13 (TX6 2).1 (TX6 2).2.1 (TX6 2).2.2.1 ∈ gw := by decide +kernel
theorem kpf6_16 : Cond.fieldLink RX6 16 (TX6 3).1 (TX6 3).2.1 (TX6 3).2.2.1 ∈ gw := by decide +kernel
theorem kpf6_19 : Cond.fieldLink RX6 19 (TX6 4).1 (TX6 4).2.1 (TX6 4).2.2.1 ∈ gw := by decide +kernel
theorem kpf6_22 : Cond.fieldLink RX6 22 (TX6 5).1 (TX6 5).2.1 (TX6 5).2.2.1 ∈ gw := by decide +kernel
theorem kpp6_25 : gFldP RX6 25 6 6 .int := ⟨RX6, TX6, 37, tyX6, rfl, inX6, by decide, tyX6_ok, nmX6, rfl, rfl, Or.inl (by decide +kernel)⟩
theorem kpf6_29 : Cond.fieldLink RX6 29 (TX6 7).1 (TX6 7).2.1 (TX6 7).2.2.1 ∈ gw := by decide +kernel
theorem kpf6_32 : Cond.fieldLink RX6 32 (TX6 9).1 (TX6 9).2.1 (TX6 9).2.2.1 ∈ gw := by decide +kernel
theorem kpf6_35 : Cond.fieldLink RX6 35 (TX6 10).1 (TX6 10).2.1 (TX6 10).2.2.1 ∈ gw := by decide +kernel
theorem kpf6_38 : Cond.fieldLink RX6 38 (TX6 16).1 (TX6 16).2.1 (TX6 16).2.2.1 ∈ gw := by decide +kernel
theorem kpf6_41 : Cond.fieldLink RX6 41 (TX6 17).1 (TX6 17).2.1 (TX6 17).2.2.1 ∈ gw := by decide +kernel
theorem kpf6_44 : Cond.fieldLink RX6 44 (TX6 18).1 (TX6 18).2.1 (TX6 18).2.2.1 ∈ gw := by decide +kernel
theorem kpf6_47 : Cond.fieldLink RX6 47 (TX6 19).1 (TX6 19).2.1 (TX6 19).2.2.1 ∈ gw := by decide +kernel
theorem kpf6_50 : Cond.fieldLink RX6 50 (TX6 20).1 (TX6 20).2.1 (TX6 20).2.2.1 ∈ gw := by decide +kernel
theorem kpf6_53 : Cond.fieldLink RX6 53 (TX6 25).1 (TX6 25).2.1 (TX6 25).2.2.1 ∈ gw := by decide +kernel
theorem kpf6_56 : Cond.fieldLink RX6 56 (TX6 26).1 (TX6 26).2.1 (TX6 26).2.2.1 ∈ gw := by decide +kernel
theorem kpf6_59 : Cond.fieldLink RX6 59 (TX6 30).1 (TX6 30).2.1 (TX6 30).2.2.1 ∈ gw := by decide +kernel
theorem kpf6_62 : Cond.fieldLink RX6 62 (TX6 31).1 (TX6 31).2.1 (TX6 31).2.2.1 ∈ gw := by decide +kernel
theorem kpf6_65 : Cond.fieldLink RX6 65 (TX6 32).1 (TX6 32).2.1 (TX6 32).2.2.1 ∈ gw := by decide +kernel
def rmX0_init : Room := { frames := 1, cells := 3, slots := 17, locals := 20 }
def w1X0 (cA : Nat → ClassId) (h0 : Nat) (qs : Nat → Nat) : va_W := [(h0, .inr (0, [.ref (qs 0), .ref (qs 1), .ref (qs 2), .int 0, .int 0, .int 0])), (qs 0, .inl (cA 0, 7, .inl (fun _ => 0))), (qs 1, .inl (cA 0, 5, .inl (fun _ => 0))), (qs 2, .inl (cA 0, 5, .inl (fun _ => 0)))]
set_option maxHeartbeats 4000000 in
set_option maxRecDepth 100000 in
theorem mX0_init {l : Launch} {D : va_G} {cA : Nat → ClassId} {h0 : Nat} : Cn l D cA yX0_init cX0_init 1 rmX0_init [.ref h0] [(h0, .inr (0, [.null, .null, .null, .int 0, .int 0, .int 0]))] (w1X0 cA h0) := by
  refine cn_of plX0 rfl (Nat.le_of_ble_eq_true rfl) rfl (fun G X => ?_)
  refine n_aload_n X dX0_init_0 rfl 0 rfl ?_
  refine n_obj X kob_0_3 kob1 kob2 (Nat.le_of_ble_eq_true rfl) (Nat.le_of_ble_eq_true rfl) (Nat.le_of_ble_eq_true rfl) dX0_init_1 ?_
  refine n_aload_n X dX0_init_4 rfl 0 rfl ?_
  refine n_bipush X 7 dX0_init_5 (by decide) ?_
  refine n_newa X 7 kai (by decide) (by decide) (Nat.le_of_ble_eq_true rfl) (Nat.le_of_ble_eq_true rfl) (Nat.le_of_ble_eq_true rfl) dX0_init_7 (fun q1 => ?_)
  refine n_ws X [(h0, .inr (0, [.null, .null, .null, .int 0, .int 0, .int 0])), (q1, .inl (cA 0, 7, .inl (fun _ => 0)))] rfl ?_
  refine n_putF X nE_in (k0 := 0) 0 tyX0 inX0 tyX0_ok nmX0 rfl (by decide) kpf0_9 rfl rfl rfl rfl (Nat.le_of_ble_eq_true rfl) rfl rfl dX0_init_9 ?_
  refine n_ws X [(h0, .inr (0, [.ref q1, .null, .null, .int 0, .int 0, .int 0])), (q1, .inl (cA 0, 7, .inl (fun _ => 0)))] rfl ?_
  refine n_aload_n X dX0_init_12 rfl 0 rfl ?_
  refine n_iconst X 5 dX0_init_13 (by decide) ?_
  refine n_newa X 5 kai (by decide) (by decide) (Nat.le_of_ble_eq_true rfl) (Nat.le_of_ble_eq_true rfl) (Nat.le_of_ble_eq_true rfl) dX0_init_14 (fun q2 => ?_)
  refine n_ws X [(h0, .inr (0, [.ref q1, .null, .null, .int 0, .int 0, .int 0])), (q1, .inl (cA 0, 7, .inl (fun _ => 0))), (q2, .inl (cA 0, 5, .inl (fun _ => 0)))] rfl ?_
  refine n_putF X nE_in (k0 := 1) 0 tyX0 inX0 tyX0_ok nmX0 rfl (by decide) kpf0_15 rfl rfl rfl rfl (Nat.le_of_ble_eq_true rfl) rfl rfl dX0_init_16 ?_
  refine n_ws X [(h0, .inr (0, [.ref q1, .ref q2, .null, .int 0, .int 0, .int 0])), (q1, .inl (cA 0, 7, .inl (fun _ => 0))), (q2, .inl (cA 0, 5, .inl (fun _ => 0)))] rfl ?_
  refine n_aload_n X dX0_init_19 rfl 0 rfl ?_
  refine n_iconst X 5 dX0_init_20 (by decide) ?_
  refine n_newa X 5 kai (by decide) (by decide) (Nat.le_of_ble_eq_true rfl) (Nat.le_of_ble_eq_true rfl) (Nat.le_of_ble_eq_true rfl) dX0_init_21 (fun q3 => ?_)
  refine n_ws X [(h0, .inr (0, [.ref q1, .ref q2, .null, .int 0, .int 0, .int 0])), (q1, .inl (cA 0, 7, .inl (fun _ => 0))), (q2, .inl (cA 0, 5, .inl (fun _ => 0))), (q3, .inl (cA 0, 5, .inl (fun _ => 0)))] rfl ?_
  refine n_putF X nE_in (k0 := 2) 0 tyX0 inX0 tyX0_ok nmX0 rfl (by decide) kpf0_18 rfl rfl rfl rfl (Nat.le_of_ble_eq_true rfl) rfl rfl dX0_init_23 ?_
  refine n_ws X [(h0, .inr (0, [.ref q1, .ref q2, .ref q3, .int 0, .int 0, .int 0])), (q1, .inl (cA 0, 7, .inl (fun _ => 0))), (q2, .inl (cA 0, 5, .inl (fun _ => 0))), (q3, .inl (cA 0, 5, .inl (fun _ => 0)))] rfl ?_
  exact n_vret X (fun i => ([q1, q2, q3] : List Nat).getD i 0) rfl (Nat.le_of_ble_eq_true rfl) (Nat.le_of_ble_eq_true rfl) dX0_init_26
def rmX1_init : Room := { frames := 1, cells := 4, slots := 20, locals := 20 }
def w1X1 (cA : Nat → ClassId) (h0 : Nat) (qs : Nat → Nat) : va_W := [(h0, .inr (1, [.ref (qs 0), .ref (qs 1), .ref (qs 2), .ref (qs 3), .int 0])), (qs 0, .inl (cA 0, 5, .inl (fun _ => 0))), (qs 1, .inl (cA 0, 5, .inl (fun _ => 0))), (qs 2, .inl (cA 0, 5, .inl (fun _ => 0))), (qs 3, .inl (cA 0, 5, .inl (fun _ => 0)))]
set_option maxHeartbeats 4000000 in
set_option maxRecDepth 100000 in
theorem mX1_init {l : Launch} {D : va_G} {cA : Nat → ClassId} {h0 : Nat} : Cn l D cA yX1_init cX1_init 1 rmX1_init [.ref h0] [(h0, .inr (1, [.null, .null, .null, .null, .int 0]))] (w1X1 cA h0) := by
  refine cn_of plX1 rfl (Nat.le_of_ble_eq_true rfl) rfl (fun G X => ?_)
  refine n_aload_n X dX1_init_0 rfl 0 rfl ?_
  refine n_obj X kob_1_3 kob1 kob2 (Nat.le_of_ble_eq_true rfl) (Nat.le_of_ble_eq_true rfl) (Nat.le_of_ble_eq_true rfl) dX1_init_1 ?_
  refine n_aload_n X dX1_init_4 rfl 0 rfl ?_
  refine n_iconst X 5 dX1_init_5 (by decide) ?_
  refine n_newa X 5 kai (by decide) (by decide) (Nat.le_of_ble_eq_true rfl) (Nat.le_of_ble_eq_true rfl) (Nat.le_of_ble_eq_true rfl) dX1_init_6 (fun q1 => ?_)
  refine n_ws X [(h0, .inr (1, [.null, .null, .null, .null, .int 0])), (q1, .inl (cA 0, 5, .inl (fun _ => 0)))] rfl ?_
  refine n_putF X nE_in (k0 := 0) 0 tyX1 inX1 tyX1_ok nmX1 rfl (by decide) kpf1_9 rfl rfl rfl rfl (Nat.le_of_ble_eq_true rfl) rfl rfl dX1_init_8 ?_
  refine n_ws X [(h0, .inr (1, [.ref q1, .null, .null, .null, .int 0])), (q1, .inl (cA 0, 5, .inl (fun _ => 0)))] rfl ?_
  refine n_aload_n X dX1_init_11 rfl 0 rfl ?_
  refine n_iconst X 5 dX1_init_12 (by decide) ?_
  refine n_newa X 5 kai (by decide) (by decide) (Nat.le_of_ble_eq_true rfl) (Nat.le_of_ble_eq_true rfl) (Nat.le_of_ble_eq_true rfl) dX1_init_13 (fun q2 => ?_)
  refine n_ws X [(h0, .inr (1, [.ref q1, .null, .null, .null, .int 0])), (q1, .inl (cA 0, 5, .inl (fun _ => 0))), (q2, .inl (cA 0, 5, .inl (fun _ => 0)))] rfl ?_
  refine n_putF X nE_in (k0 := 1) 0 tyX1 inX1 tyX1_ok nmX1 rfl (by decide) kpf1_15 rfl rfl rfl rfl (Nat.le_of_ble_eq_true rfl) rfl rfl dX1_init_15 ?_
  refine n_ws X [(h0, .inr (1, [.ref q1, .ref q2, .null, .null, .int 0])), (q1, .inl (cA 0, 5, .inl (fun _ => 0))), (q2, .inl (cA 0, 5, .inl (fun _ => 0)))] rfl ?_
  refine n_aload_n X dX1_init_18 rfl 0 rfl ?_
  refine n_iconst X 5 dX1_init_19 (by decide) ?_
  refine n_newa X 5 kai (by decide) (by decide) (Nat.le_of_ble_eq_true rfl) (Nat.le_of_ble_eq_true rfl) (Nat.le_of_ble_eq_true rfl) dX1_init_20 (fun q3 => ?_)
  refine n_ws X [(h0, .inr (1, [.ref q1, .ref q2, .null, .null, .int 0])), (q1, .inl (cA 0, 5, .inl (fun _ => 0))), (q2, .inl (cA 0, 5, .inl (fun _ => 0))), (q3, .inl (cA 0, 5, .inl (fun _ => 0)))] rfl ?_
  refine n_putF X nE_in (k0 := 2) 0 tyX1 inX1 tyX1_ok nmX1 rfl (by decide) kpf1_18 rfl rfl rfl rfl (Nat.le_of_ble_eq_true rfl) rfl rfl dX1_init_22 ?_
  refine n_ws X [(h0, .inr (1, [.ref q1, .ref q2, .ref q3, .null, .int 0])), (q1, .inl (cA 0, 5, .inl (fun _ => 0))), (q2, .inl (cA 0, 5, .inl (fun _ => 0))), (q3, .inl (cA 0, 5, .inl (fun _ => 0)))] rfl ?_
  refine n_aload_n X dX1_init_25 rfl 0 rfl ?_
  refine n_iconst X 5 dX1_init_26 (by decide) ?_
  refine n_newa X 5 kai (by decide) (by decide) (Nat.le_of_ble_eq_true rfl) (Nat.le_of_ble_eq_true rfl) (Nat.le_of_ble_eq_true rfl) dX1_init_27 (fun q4 => ?_)
  refine n_ws X [(h0, .inr (1, [.ref q1, .ref q2, .ref q3, .null, .int 0])), (q1, .inl (cA 0, 5, .inl (fun _ => 0))), (q2, .inl (cA 0, 5, .inl (fun _ => 0))), (q3, .inl (cA 0, 5, .inl (fun _ => 0))), (q4, .inl (cA 0, 5, .inl (fun _ => 0)))] rfl ?_
  refine n_putF X nE_in (k0 := 3) 0 tyX1 inX1 tyX1_ok nmX1 rfl (by decide) kpf1_21 rfl rfl rfl rfl (Nat.le_of_ble_eq_true rfl) rfl rfl dX1_init_29 ?_
  refine n_ws X [(h0, .inr (1, [.ref q1, .ref q2, .ref q3, .ref q4, .int 0])), (q1, .inl (cA 0, 5, .inl (fun _ => 0))), (q2, .inl (cA 0, 5, .inl (fun _ => 0))), (q3, .inl (cA 0, 5, .inl (fun _ => 0))), (q4, .inl (cA 0, 5, .inl (fun _ => 0)))] rfl ?_
  exact n_vret X (fun i => ([q1, q2, q3, q4] : List Nat).getD i 0) rfl (Nat.le_of_ble_eq_true rfl) (Nat.le_of_ble_eq_true rfl) dX1_init_32
def rmX3_init : Room := { frames := 1, cells := 1, slots := 160, locals := 20 }
def w1X3 (cA : Nat → ClassId) (h0 : Nat) (qs : Nat → Nat) : va_W := [(h0, .inr (3, [.ref (qs 0), .int 0, .int 0, .int 0, .int 0, .int 0, .null])), (qs 0, .inl (cA 0, 160, .inl (fun _ => 0)))]
set_option maxHeartbeats 4000000 in
set_option maxRecDepth 100000 in
theorem mX3_init {l : Launch} {D : va_G} {cA : Nat → ClassId} {h0 : Nat} : Cn l D cA yX3_init cX3_init 1 rmX3_init [.ref h0] [(h0, .inr (3, [.null, .int 0, .int 0, .int 0, .int 0, .int 0, .null]))] (w1X3 cA h0) := by
  refine cn_of plX3 rfl (Nat.le_of_ble_eq_true rfl) rfl (fun G X => ?_)
  refine n_aload_n X dX3_init_0 rfl 0 rfl ?_
  refine n_obj X kob_3_3 kob1 kob2 (Nat.le_of_ble_eq_true rfl) (Nat.le_of_ble_eq_true rfl) (Nat.le_of_ble_eq_true rfl) dX3_init_1 ?_
  refine n_aload_n X dX3_init_4 rfl 0 rfl ?_
  refine n_sipush X 160 dX3_init_5 (by decide) ?_
  refine n_newa X 160 kai (by decide) (by decide) (Nat.le_of_ble_eq_true rfl) (Nat.le_of_ble_eq_true rfl) (Nat.le_of_ble_eq_true rfl) dX3_init_8 (fun q1 => ?_)
  refine n_ws X [(h0, .inr (3, [.null, .int 0, .int 0, .int 0, .int 0, .int 0, .null])), (q1, .inl (cA 0, 160, .inl (fun _ => 0)))] rfl ?_
  refine n_putF X nE_in (k0 := 0) 0 tyX3 inX3 tyX3_ok nmX3 rfl (by decide) kpf3_9 rfl rfl rfl rfl (Nat.le_of_ble_eq_true rfl) rfl rfl dX3_init_10 ?_
  refine n_ws X [(h0, .inr (3, [.ref q1, .int 0, .int 0, .int 0, .int 0, .int 0, .null])), (q1, .inl (cA 0, 160, .inl (fun _ => 0)))] rfl ?_
  exact n_vret X (fun i => ([q1] : List Nat).getD i 0) rfl (Nat.le_of_ble_eq_true rfl) (Nat.le_of_ble_eq_true rfl) dX3_init_13
def rmX4_init : Room := { frames := 1, cells := 2, slots := 163, locals := 20 }
def w1X4 (cA : Nat → ClassId) (h0 a1 : Nat) (qs : Nat → Nat) : va_W := [(h0, .inr (4, [.ref (qs 0), .ref (qs 1), .ref a1, .int 0])), (qs 0, .inl (cA 0, 160, .inl (fun _ => 0))), (qs 1, .inl (cA 0, 3, .inl (fun _ => 0)))]
set_option maxHeartbeats 4000000 in
set_option maxRecDepth 100000 in
theorem mX4_init {l : Launch} {D : va_G} {cA : Nat → ClassId} {h0 a1 : Nat} : Cn l D cA yX4_init cX4_init 2 rmX4_init [.ref h0, .ref a1] [(h0, .inr (4, [.null, .null, .null, .int 0]))] (w1X4 cA h0 a1) := by
  refine cn_of plX4 rfl (Nat.le_of_ble_eq_true rfl) rfl (fun G X => ?_)
  refine n_aload_n X dX4_init_0 rfl 0 rfl ?_
  refine n_obj X kob_4_3 kob1 kob2 (Nat.le_of_ble_eq_true rfl) (Nat.le_of_ble_eq_true rfl) (Nat.le_of_ble_eq_true rfl) dX4_init_1 ?_
  refine n_aload_n X dX4_init_4 rfl 0 rfl ?_
  refine n_sipush X 160 dX4_init_5 (by decide) ?_
  refine n_newa X 160 kai (by decide) (by decide) (Nat.le_of_ble_eq_true rfl) (Nat.le_of_ble_eq_true rfl) (Nat.le_of_ble_eq_true rfl) dX4_init_8 (fun q1 => ?_)
  refine n_ws X [(h0, .inr (4, [.null, .null, .null, .int 0])), (q1, .inl (cA 0, 160, .inl (fun _ => 0)))] rfl ?_
  refine n_putF X nE_in (k0 := 0) 0 tyX4 inX4 tyX4_ok nmX4 rfl (by decide) kpf4_9 rfl rfl rfl rfl (Nat.le_of_ble_eq_true rfl) rfl rfl dX4_init_10 ?_
  refine n_ws X [(h0, .inr (4, [.ref q1, .null, .null, .int 0])), (q1, .inl (cA 0, 160, .inl (fun _ => 0)))] rfl ?_
  refine n_aload_n X dX4_init_13 rfl 0 rfl ?_
  refine n_iconst X 3 dX4_init_14 (by decide) ?_
  refine n_newa X 3 kai (by decide) (by decide) (Nat.le_of_ble_eq_true rfl) (Nat.le_of_ble_eq_true rfl) (Nat.le_of_ble_eq_true rfl) dX4_init_15 (fun q2 => ?_)
  refine n_ws X [(h0, .inr (4, [.ref q1, .null, .null, .int 0])), (q1, .inl (cA 0, 160, .inl (fun _ => 0))), (q2, .inl (cA 0, 3, .inl (fun _ => 0)))] rfl ?_
  refine n_putF X nE_in (k0 := 1) 0 tyX4 inX4 tyX4_ok nmX4 rfl (by decide) kpf4_15 rfl rfl rfl rfl (Nat.le_of_ble_eq_true rfl) rfl rfl dX4_init_17 ?_
  refine n_ws X [(h0, .inr (4, [.ref q1, .ref q2, .null, .int 0])), (q1, .inl (cA 0, 160, .inl (fun _ => 0))), (q2, .inl (cA 0, 3, .inl (fun _ => 0)))] rfl ?_
  refine n_aload_n X dX4_init_20 rfl 0 rfl ?_
  refine n_aload_n X dX4_init_21 rfl 1 rfl ?_
  refine n_putF X nE_in (k0 := 2) 0 tyX4 inX4 tyX4_ok nmX4 rfl (by decide) kpf4_18 rfl rfl rfl rfl (Nat.le_of_ble_eq_true rfl) rfl rfl dX4_init_22 ?_
  refine n_ws X [(h0, .inr (4, [.ref q1, .ref q2, .ref a1, .int 0])), (q1, .inl (cA 0, 160, .inl (fun _ => 0))), (q2, .inl (cA 0, 3, .inl (fun _ => 0)))] rfl ?_
  exact n_vret X (fun i => ([q1, q2] : List Nat).getD i 0) rfl (Nat.le_of_ble_eq_true rfl) (Nat.le_of_ble_eq_true rfl) dX4_init_25
def fa2_0 : Nat → Int32 := upd (fun _ => 0) 0 (-1)
def fa2_1 : Nat → Int32 := upd fa2_0 1 (-1)
def fa2_2 : Nat → Int32 := upd fa2_1 2 (-1)
def fa2_3 : Nat → Int32 := upd fa2_2 3 (-1)
def rmX2_init : Room := { frames := 1, cells := 7, slots := 172, locals := 20 }
def w1X2 (cA : Nat → ClassId) (h0 : Nat) (qs : Nat → Nat) : va_W := [(h0, .inr (2, [.ref (qs 0), .ref (qs 5), .ref (qs 6)])), (qs 0, .inl (cA 2, 4, .inr (.inr (.inr (.inr (fun j => some (qs (1 + j)))))))), (qs 1, .inl (cA 0, 40, .inl (fun _ => 0))), (qs 2, .inl (cA 0, 40, .inl (fun _ => 0))), (qs 3, .inl (cA 0, 40, .inl (fun _ => 0))), (qs 4, .inl (cA 0, 40, .inl (fun _ => 0))), (qs 5, .inl (cA 0, 4, .inl fa2_3)), (qs 6, .inl (cA 0, 4, .inl (fun _ => 0)))]
set_option maxHeartbeats 4000000 in
set_option maxRecDepth 100000 in
theorem mX2_init {l : Launch} {D : va_G} {cA : Nat → ClassId} {h0 : Nat} : Cn l D cA yX2_init cX2_init 1 rmX2_init [.ref h0] [(h0, .inr (2, [.null, .null, .null]))] (w1X2 cA h0) := by
  refine cn_of plX2 rfl (Nat.le_of_ble_eq_true rfl) rfl (fun G X => ?_)
  refine n_aload_n X dX2_init_0 rfl 0 rfl ?_
  refine n_obj X kob_2_3 kob1 kob2 (Nat.le_of_ble_eq_true rfl) (Nat.le_of_ble_eq_true rfl) (Nat.le_of_ble_eq_true rfl) dX2_init_1 ?_
  refine n_aload_n X dX2_init_4 rfl 0 rfl ?_
  refine n_iconst X 4 dX2_init_5 (by decide) ?_
  refine n_bipush X 40 dX2_init_6 (by decide) ?_
  refine n_mna X 4 40 kmn2_9 kai (by decide) (by decide) (by decide) (by decide) (Nat.le_of_ble_eq_true rfl) (Nat.le_of_ble_eq_true rfl) (Nat.le_of_ble_eq_true rfl) (Nat.le_of_ble_eq_true rfl) (Nat.le_of_ble_eq_true rfl) dX2_init_8 (fun q1 w2 => ?_)
  refine n_ws X [(h0, .inr (2, [.null, .null, .null])), (q1, .inl (cA 2, 4, .inr (.inr (.inr (.inr (fun i => if i < 4 then some (w2 i) else none)))))), ((w2 0), .inl (cA 0, 40, .inl (fun _ => 0))), ((w2 1), .inl (cA 0, 40, .inl (fun _ => 0))), ((w2 2), .inl (cA 0, 40, .inl (fun _ => 0))), ((w2 3), .inl (cA 0, 40, .inl (fun _ => 0)))] rfl ?_
  refine n_putF X nE_in (k0 := 0) 0 tyX2 inX2 tyX2_ok nmX2 rfl (by decide) kpf2_11 rfl rfl rfl rfl (Nat.le_of_ble_eq_true rfl) rfl rfl dX2_init_12 ?_
  refine n_ws X [(h0, .inr (2, [.ref q1, .null, .null])), (q1, .inl (cA 2, 4, .inr (.inr (.inr (.inr (fun i => if i < 4 then some (w2 i) else none)))))), ((w2 0), .inl (cA 0, 40, .inl (fun _ => 0))), ((w2 1), .inl (cA 0, 40, .inl (fun _ => 0))), ((w2 2), .inl (cA 0, 40, .inl (fun _ => 0))), ((w2 3), .inl (cA 0, 40, .inl (fun _ => 0)))] rfl ?_
  refine n_aload_n X dX2_init_15 rfl 0 rfl ?_
  refine n_iconst X 4 dX2_init_16 (by decide) ?_
  refine n_newa X 4 kai (by decide) (by decide) (Nat.le_of_ble_eq_true rfl) (Nat.le_of_ble_eq_true rfl) (Nat.le_of_ble_eq_true rfl) dX2_init_17 (fun q3 => ?_)
  refine n_ws X [(h0, .inr (2, [.ref q1, .null, .null])), (q1, .inl (cA 2, 4, .inr (.inr (.inr (.inr (fun i => if i < 4 then some (w2 i) else none)))))), ((w2 0), .inl (cA 0, 40, .inl (fun _ => 0))), ((w2 1), .inl (cA 0, 40, .inl (fun _ => 0))), ((w2 2), .inl (cA 0, 40, .inl (fun _ => 0))), ((w2 3), .inl (cA 0, 40, .inl (fun _ => 0))), (q3, .inl (cA 0, 4, .inl (fun _ => 0)))] rfl ?_
  refine n_dup X dX2_init_19 rfl ?_
  refine n_iconst X 0 dX2_init_20 (by decide) ?_
  refine n_iconst X (-1) dX2_init_21 (by decide) ?_
  refine n_iast X 6 rfl (by unfold vp_in; decide) dX2_init_22 ?_
  refine n_ws X [(h0, .inr (2, [.ref q1, .null, .null])), (q1, .inl (cA 2, 4, .inr (.inr (.inr (.inr (fun i => if i < 4 then some (w2 i) else none)))))), ((w2 0), .inl (cA 0, 40, .inl (fun _ => 0))), ((w2 1), .inl (cA 0, 40, .inl (fun _ => 0))), ((w2 2), .inl (cA 0, 40, .inl (fun _ => 0))), ((w2 3), .inl (cA 0, 40, .inl (fun _ => 0))), (q3, .inl (cA 0, 4, .inl fa2_0))] rfl ?_
  refine n_dup X dX2_init_23 rfl ?_
  refine n_iconst X 1 dX2_init_24 (by decide) ?_
  refine n_iconst X (-1) dX2_init_25 (by decide) ?_
  refine n_iast X 6 rfl (by unfold vp_in; decide) dX2_init_26 ?_
  refine n_ws X [(h0, .inr (2, [.ref q1, .null, .null])), (q1, .inl (cA 2, 4, .inr (.inr (.inr (.inr (fun i => if i < 4 then some (w2 i) else none)))))), ((w2 0), .inl (cA 0, 40, .inl (fun _ => 0))), ((w2 1), .inl (cA 0, 40, .inl (fun _ => 0))), ((w2 2), .inl (cA 0, 40, .inl (fun _ => 0))), ((w2 3), .inl (cA 0, 40, .inl (fun _ => 0))), (q3, .inl (cA 0, 4, .inl fa2_1))] rfl ?_
  refine n_dup X dX2_init_27 rfl ?_
  refine n_iconst X 2 dX2_init_28 (by decide) ?_
  refine n_iconst X (-1) dX2_init_29 (by decide) ?_
  refine n_iast X 6 rfl (by unfold vp_in; decide) dX2_init_30 ?_
  refine n_ws X [(h0, .inr (2, [.ref q1, .null, .null])), (q1, .inl (cA 2, 4, .inr (.inr (.inr (.inr (fun i => if i < 4 then some (w2 i) else none)))))), ((w2 0), .inl (cA 0, 40, .inl (fun _ => 0))), ((w2 1), .inl (cA 0, 40, .inl (fun _ => 0))), ((w2 2), .inl (cA 0, 40, .inl (fun _ => 0))), ((w2 3), .inl (cA 0, 40, .inl (fun _ => 0))), (q3, .inl (cA 0, 4, .inl fa2_2))] rfl ?_
  refine n_dup X dX2_init_31 rfl ?_
  refine n_iconst X 3 dX2_init_32 (by decide) ?_
  refine n_iconst X (-1) dX2_init_33 (by decide) ?_
  refine n_iast X 6 rfl (by unfold vp_in; decide) dX2_init_34 ?_
  refine n_ws X [(h0, .inr (2, [.ref q1, .null, .null])), (q1, .inl (cA 2, 4, .inr (.inr (.inr (.inr (fun i => if i < 4 then some (w2 i) else none)))))), ((w2 0), .inl (cA 0, 40, .inl (fun _ => 0))), ((w2 1), .inl (cA 0, 40, .inl (fun _ => 0))), ((w2 2), .inl (cA 0, 40, .inl (fun _ => 0))), ((w2 3), .inl (cA 0, 40, .inl (fun _ => 0))), (q3, .inl (cA 0, 4, .inl fa2_3))] rfl ?_
  refine n_putF X nE_in (k0 := 1) 0 tyX2 inX2 tyX2_ok nmX2 rfl (by decide) kpf2_16 rfl rfl rfl rfl (Nat.le_of_ble_eq_true rfl) rfl rfl dX2_init_35 ?_
  refine n_ws X [(h0, .inr (2, [.ref q1, .ref q3, .null])), (q1, .inl (cA 2, 4, .inr (.inr (.inr (.inr (fun i => if i < 4 then some (w2 i) else none)))))), ((w2 0), .inl (cA 0, 40, .inl (fun _ => 0))), ((w2 1), .inl (cA 0, 40, .inl (fun _ => 0))), ((w2 2), .inl (cA 0, 40, .inl (fun _ => 0))), ((w2 3), .inl (cA 0, 40, .inl (fun _ => 0))), (q3, .inl (cA 0, 4, .inl fa2_3))] rfl ?_
  refine n_aload_n X dX2_init_38 rfl 0 rfl ?_
  refine n_iconst X 4 dX2_init_39 (by decide) ?_
  refine n_newa X 4 kai (by decide) (by decide) (Nat.le_of_ble_eq_true rfl) (Nat.le_of_ble_eq_true rfl) (Nat.le_of_ble_eq_true rfl) dX2_init_40 (fun q4 => ?_)
  refine n_ws X [(h0, .inr (2, [.ref q1, .ref q3, .null])), (q1, .inl (cA 2, 4, .inr (.inr (.inr (.inr (fun i => if i < 4 then some (w2 i) else none)))))), ((w2 0), .inl (cA 0, 40, .inl (fun _ => 0))), ((w2 1), .inl (cA 0, 40, .inl (fun _ => 0))), ((w2 2), .inl (cA 0, 40, .inl (fun _ => 0))), ((w2 3), .inl (cA 0, 40, .inl (fun _ => 0))), (q3, .inl (cA 0, 4, .inl fa2_3)), (q4, .inl (cA 0, 4, .inl (fun _ => 0)))] rfl ?_
  refine n_putF X nE_in (k0 := 2) 0 tyX2 inX2 tyX2_ok nmX2 rfl (by decide) kpf2_20 rfl rfl rfl rfl (Nat.le_of_ble_eq_true rfl) rfl rfl dX2_init_42 ?_
  refine n_ws X [(h0, .inr (2, [.ref q1, .ref q3, .ref q4])), (q1, .inl (cA 2, 4, .inr (.inr (.inr (.inr (fun i => if i < 4 then some (w2 i) else none)))))), ((w2 0), .inl (cA 0, 40, .inl (fun _ => 0))), ((w2 1), .inl (cA 0, 40, .inl (fun _ => 0))), ((w2 2), .inl (cA 0, 40, .inl (fun _ => 0))), ((w2 3), .inl (cA 0, 40, .inl (fun _ => 0))), (q3, .inl (cA 0, 4, .inl fa2_3)), (q4, .inl (cA 0, 4, .inl (fun _ => 0)))] rfl ?_
  refine n_arrQ X 1 (fun j => some (([q1, (w2 0), (w2 1), (w2 2), (w2 3), q3, q4] : List Nat).getD (1 + j) 0)) rfl (fun j hj => by rcases (show j = 0 ∨ j = 1 ∨ j = 2 ∨ j = 3 by omega) with rfl | rfl | rfl | rfl <;> rfl) ?_
  exact n_vret X (fun i => ([q1, (w2 0), (w2 1), (w2 2), (w2 3), q3, q4] : List Nat).getD i 0) rfl (Nat.le_of_ble_eq_true rfl) (Nat.le_of_ble_eq_true rfl) dX2_init_45
