theorem glk_out {a b : Int} (h : a = b) : a = b := h
def gBig (rm : Room) : Prop := 20 ≤ rm.frames ∧ 600 ≤ rm.locals
theorem gbig1 {rm : Room} (h : gBig rm) : 1 ≤ rm.frames := Nat.le_trans (by decide) h.1
theorem gbig2 {rm : Room} (h : gBig rm) : 21 ≤ rm.locals := Nat.le_trans (by decide) h.2
theorem gbig3 {rm : Room} (h : gBig rm) : 26 ≤ rm.locals := Nat.le_trans (by decide) h.2
theorem gRm_big {rm rmY : Room} {n : Nat} (h : gBig rm) (k : rmY.cells = 0 ∧ rmY.slots = 0 ∧ rmY.frames + 1 ≤ 20 ∧ 8 + (n + 11) + rmY.locals ≤ 600) : gRm rm rmY n := ⟨k.1, k.2.1, Nat.le_trans k.2.2.1 h.1, Nat.le_trans k.2.2.2 h.2⟩
theorem plX0 : plainName RX0 = true := by decide +kernel
theorem plX1 : plainName RX1 = true := by decide +kernel
theorem plX2 : plainName RX2 = true := by decide +kernel
theorem plX3 : plainName RX3 = true := by decide +kernel
theorem plX4 : plainName RX4 = true := by decide +kernel
theorem plX5 : plainName RX5 = true := by decide +kernel
theorem plX6 : plainName RX6 = true := by decide +kernel
theorem inX0 : ∀ w ∈ u_ws RX0 TX0 6, w ∈ gw := by decide +kernel
theorem inX1 : ∀ w ∈ u_ws RX1 TX1 5, w ∈ gw := by decide +kernel
theorem inX2 : ∀ w ∈ u_ws RX2 TX2 3, w ∈ gw := by decide +kernel
theorem inX3 : ∀ w ∈ u_ws RX3 TX3 7, w ∈ gw := by decide +kernel
theorem inX4 : ∀ w ∈ u_ws RX4 TX4 4, w ∈ gw := by decide +kernel
theorem inX5 : ∀ w ∈ u_ws RX5 TX5 12, w ∈ gw := by decide +kernel
theorem inX6 : ∀ w ∈ u_ws RX6 TX6 37, w ∈ gw := by decide +kernel
/-! the class's world -/
def fsC5 (r : Nat → Nat) (f : Nat → Int32) : List Value := [.ref (r 1), .ref (r 2), .ref (r 3), .ref (r 4), .ref (r 5), .ref (r 6), .ref (r 7), .ref (r 8), .int (f 8), .int (f 9), .int (f 10), .int (f 11)]
def fsC1 (r : Nat → Nat) (f : Nat → Int32) : List Value := [.ref (r 9), .ref (r 10), .ref (r 11), .ref (r 12), .int (f 4)]
def fsC3 (r : Nat → Nat) (f : Nat → Int32) : List Value := [.ref (r 13), .int (f 1), .int (f 2), .int (f 3), .int (f 4), .int (f 5), va_rf (gtxt r (f 6))]
def fsC2 (r : Nat → Nat) (f : Nat → Int32) : List Value := [.ref (r 14), .ref (r 15), .ref (r 16)]
def fsC0 (r : Nat → Nat) (f : Nat → Int32) : List Value := [.ref (r 17), .ref (r 18), .ref (r 19), .int (f 3), .int (f 4), .int (f 5)]
def fsC4 (r : Nat → Nat) (t : Nat) (f : Nat → Int32) : List Value := [.ref (r (37 + t)), .ref (r (43 + t)), .ref (r 49), .int (f 3)]
def shC (cA : Nat → ClassId) (r : Nat → Nat) : gSh := fun i f => match i with
  | 0 => .inr (5, fsC5 r f)
  | 1 => .inl (cA 0, 7, .inl f)
  | 2 => .inl (cA 0, 7, .inl f)
  | 3 => .inl (cA 2, 7, .inr (.inr (.inr (.inr (fun j => some (r (20 + j)))))))
  | 4 => .inr (1, fsC1 r f)
  | 5 => .inr (3, fsC3 r f)
  | 6 => .inl (cA 1, 6, .inr (.inr (.inr (.inr (fun j => some (r (31 + j)))))))
  | 7 => .inr (2, fsC2 r f)
  | 8 => .inr (0, fsC0 r f)
  | 9 => .inl (cA 0, 5, .inl f)
  | 10 => .inl (cA 0, 5, .inl f)
  | 11 => .inl (cA 0, 5, .inl f)
  | 12 => .inl (cA 0, 5, .inl f)
  | 13 => .inl (cA 0, 160, .inl f)
  | 14 => .inl (cA 2, 4, .inr (.inr (.inr (.inr (fun j => some (r (27 + j)))))))
  | 15 => .inl (cA 0, 4, .inl f)
  | 16 => .inl (cA 0, 4, .inl f)
  | 17 => .inl (cA 0, 7, .inl f)
  | 18 => .inl (cA 0, 5, .inl f)
  | 19 => .inl (cA 0, 5, .inl f)
  | 20 => .inl (cA 0, 7, .inl f)
  | 21 => .inl (cA 0, 7, .inl f)
  | 22 => .inl (cA 0, 7, .inl f)
  | 23 => .inl (cA 0, 7, .inl f)
  | 24 => .inl (cA 0, 7, .inl f)
  | 25 => .inl (cA 0, 7, .inl f)
  | 26 => .inl (cA 0, 7, .inl f)
  | 27 => .inl (cA 0, 40, .inl f)
  | 28 => .inl (cA 0, 40, .inl f)
  | 29 => .inl (cA 0, 40, .inl f)
  | 30 => .inl (cA 0, 40, .inl f)
  | 31 => .inr (4, fsC4 r 0 f)
  | 32 => .inr (4, fsC4 r 1 f)
  | 33 => .inr (4, fsC4 r 2 f)
  | 34 => .inr (4, fsC4 r 3 f)
  | 35 => .inr (4, fsC4 r 4 f)
  | 36 => .inr (4, fsC4 r 5 f)
  | 37 => .inl (cA 0, 160, .inl f)
  | 38 => .inl (cA 0, 160, .inl f)
  | 39 => .inl (cA 0, 160, .inl f)
  | 40 => .inl (cA 0, 160, .inl f)
  | 41 => .inl (cA 0, 160, .inl f)
  | 42 => .inl (cA 0, 160, .inl f)
  | 43 => .inl (cA 0, 3, .inl f)
  | 44 => .inl (cA 0, 3, .inl f)
  | 45 => .inl (cA 0, 3, .inl f)
  | 46 => .inl (cA 0, 3, .inl f)
  | 47 => .inl (cA 0, 3, .inl f)
  | 48 => .inl (cA 0, 3, .inl f)
  | 49 => .inl (cA 0, 40, .inl f)
  | _ => .inr (0, [])
def tysC (cA : Nat → ClassId) : gT := [(cA 0, .int), (cA 1, .object "ThreeEmpties$Text"), (cA 2, .array .int)]
theorem shC_0 {cA : Nat → ClassId} {r : Nat → Nat} (f : Nat → Int32) : shC cA r 0 f = .inr (5, fsC5 r f) := rfl
theorem hNC_0 : 0 < 50 := by decide
theorem shC_1 {cA : Nat → ClassId} {r : Nat → Nat} (f : Nat → Int32) : shC cA r 1 f = .inl (cA 0, 7, .inl f) := rfl
theorem hNC_1 : 1 < 50 := by decide
theorem shC_2 {cA : Nat → ClassId} {r : Nat → Nat} (f : Nat → Int32) : shC cA r 2 f = .inl (cA 0, 7, .inl f) := rfl
theorem hNC_2 : 2 < 50 := by decide
theorem shC_3 {cA : Nat → ClassId} {r : Nat → Nat} (f : Nat → Int32) : shC cA r 3 f = .inl (cA 2, 7, .inr (.inr (.inr (.inr (fun j => some (r (20 + j))))))) := rfl
theorem hNC_3 : 3 < 50 := by decide
theorem shC_4 {cA : Nat → ClassId} {r : Nat → Nat} (f : Nat → Int32) : shC cA r 4 f = .inr (1, fsC1 r f) := rfl
theorem hNC_4 : 4 < 50 := by decide
theorem shC_5 {cA : Nat → ClassId} {r : Nat → Nat} (f : Nat → Int32) : shC cA r 5 f = .inr (3, fsC3 r f) := rfl
theorem hNC_5 : 5 < 50 := by decide
theorem shC_6 {cA : Nat → ClassId} {r : Nat → Nat} (f : Nat → Int32) : shC cA r 6 f = .inl (cA 1, 6, .inr (.inr (.inr (.inr (fun j => some (r (31 + j))))))) := rfl
theorem hNC_6 : 6 < 50 := by decide
theorem shC_7 {cA : Nat → ClassId} {r : Nat → Nat} (f : Nat → Int32) : shC cA r 7 f = .inr (2, fsC2 r f) := rfl
theorem hNC_7 : 7 < 50 := by decide
theorem shC_8 {cA : Nat → ClassId} {r : Nat → Nat} (f : Nat → Int32) : shC cA r 8 f = .inr (0, fsC0 r f) := rfl
theorem hNC_8 : 8 < 50 := by decide
theorem shC_9 {cA : Nat → ClassId} {r : Nat → Nat} (f : Nat → Int32) : shC cA r 9 f = .inl (cA 0, 5, .inl f) := rfl
theorem hNC_9 : 9 < 50 := by decide
theorem shC_10 {cA : Nat → ClassId} {r : Nat → Nat} (f : Nat → Int32) : shC cA r 10 f = .inl (cA 0, 5, .inl f) := rfl
theorem hNC_10 : 10 < 50 := by decide
theorem shC_11 {cA : Nat → ClassId} {r : Nat → Nat} (f : Nat → Int32) : shC cA r 11 f = .inl (cA 0, 5, .inl f) := rfl
theorem hNC_11 : 11 < 50 := by decide
theorem shC_12 {cA : Nat → ClassId} {r : Nat → Nat} (f : Nat → Int32) : shC cA r 12 f = .inl (cA 0, 5, .inl f) := rfl
theorem hNC_12 : 12 < 50 := by decide
theorem shC_13 {cA : Nat → ClassId} {r : Nat → Nat} (f : Nat → Int32) : shC cA r 13 f = .inl (cA 0, 160, .inl f) := rfl
theorem hNC_13 : 13 < 50 := by decide
theorem shC_14 {cA : Nat → ClassId} {r : Nat → Nat} (f : Nat → Int32) : shC cA r 14 f = .inl (cA 2, 4, .inr (.inr (.inr (.inr (fun j => some (r (27 + j))))))) := rfl
theorem hNC_14 : 14 < 50 := by decide
theorem shC_15 {cA : Nat → ClassId} {r : Nat → Nat} (f : Nat → Int32) : shC cA r 15 f = .inl (cA 0, 4, .inl f) := rfl
theorem hNC_15 : 15 < 50 := by decide
theorem shC_16 {cA : Nat → ClassId} {r : Nat → Nat} (f : Nat → Int32) : shC cA r 16 f = .inl (cA 0, 4, .inl f) := rfl
theorem hNC_16 : 16 < 50 := by decide
theorem shC_17 {cA : Nat → ClassId} {r : Nat → Nat} (f : Nat → Int32) : shC cA r 17 f = .inl (cA 0, 7, .inl f) := rfl
theorem hNC_17 : 17 < 50 := by decide
theorem shC_18 {cA : Nat → ClassId} {r : Nat → Nat} (f : Nat → Int32) : shC cA r 18 f = .inl (cA 0, 5, .inl f) := rfl
theorem hNC_18 : 18 < 50 := by decide
theorem shC_19 {cA : Nat → ClassId} {r : Nat → Nat} (f : Nat → Int32) : shC cA r 19 f = .inl (cA 0, 5, .inl f) := rfl
theorem hNC_19 : 19 < 50 := by decide
theorem shC_49 {cA : Nat → ClassId} {r : Nat → Nat} (f : Nat → Int32) : shC cA r 49 f = .inl (cA 0, 40, .inl f) := rfl
theorem hNC_49 : 49 < 50 := by decide
theorem shC_ahead_lt {t : Nat} (h : t < 7) : 20 + t < 50 := by omega
theorem shC_ahead {t : Nat} (h : t < 7) {cA : Nat → ClassId} {r : Nat → Nat} (f : Nat → Int32) : shC cA r (20 + t) f = .inl (cA 0, 7, .inl f) := by
  match t, h with
  | 0, _ => rfl
  | 1, _ => rfl
  | 2, _ => rfl
  | 3, _ => rfl
  | 4, _ => rfl
  | 5, _ => rfl
  | 6, _ => rfl
theorem shC_srow_lt {t : Nat} (h : t < 4) : 27 + t < 50 := by omega
theorem shC_srow {t : Nat} (h : t < 4) {cA : Nat → ClassId} {r : Nat → Nat} (f : Nat → Int32) : shC cA r (27 + t) f = .inl (cA 0, 40, .inl f) := by
  match t, h with
  | 0, _ => rfl
  | 1, _ => rfl
  | 2, _ => rfl
  | 3, _ => rfl
theorem shC_text_lt {t : Nat} (h : t < 6) : 31 + t < 50 := by omega
theorem shC_text {t : Nat} (h : t < 6) {cA : Nat → ClassId} {r : Nat → Nat} (f : Nat → Int32) : shC cA r (31 + t) f = .inr (4, fsC4 r t f) := by
  match t, h with
  | 0, _ => rfl
  | 1, _ => rfl
  | 2, _ => rfl
  | 3, _ => rfl
  | 4, _ => rfl
  | 5, _ => rfl
theorem shC_codes_lt {t : Nat} (h : t < 6) : 37 + t < 50 := by omega
theorem shC_codes {t : Nat} (h : t < 6) {cA : Nat → ClassId} {r : Nat → Nat} (f : Nat → Int32) : shC cA r (37 + t) f = .inl (cA 0, 160, .inl f) := by
  match t, h with
  | 0, _ => rfl
  | 1, _ => rfl
  | 2, _ => rfl
  | 3, _ => rfl
  | 4, _ => rfl
  | 5, _ => rfl
theorem shC_ends_lt {t : Nat} (h : t < 6) : 43 + t < 50 := by omega
theorem shC_ends {t : Nat} (h : t < 6) {cA : Nat → ClassId} {r : Nat → Nat} (f : Nat → Int32) : shC cA r (43 + t) f = .inl (cA 0, 3, .inl f) := by
  match t, h with
  | 0, _ => rfl
  | 1, _ => rfl
  | 2, _ => rfl
  | 3, _ => rfl
  | 4, _ => rfl
  | 5, _ => rfl
/-- a row that tells how one stands -/
def gRow (a : Nat) : Prop := a = 1 ∨ a = 2 ∨ ∃ d, d < 7 ∧ a = 20 + d
theorem gRow_1 : gRow 1 := Or.inl rfl
theorem gRow_2 : gRow 2 := Or.inr (Or.inl rfl)
theorem gRow_ah {d : Nat} (h : d < 7) : gRow (20 + d) := Or.inr (Or.inr ⟨d, h, rfl⟩)
theorem gRow_lt {a : Nat} (h : gRow a) : a < 50 := by
  rcases h with rfl | rfl | ⟨d, hd, rfl⟩ <;> omega
theorem shC_row {a : Nat} (h : gRow a) {cA : Nat → ClassId} {r : Nat → Nat} (f : Nat → Int32) : shC cA r a f = .inl (cA 0, 7, .inl f) := by
  rcases h with rfl | rfl | ⟨d, hd, rfl⟩
  · rfl
  · rfl
  · exact shC_ahead hd f
theorem shC_5n {cA : Nat → ClassId} {r : Nat → Nat} {f : Nat → Int32} (h : gin (f 6 - 1) 6 = false) : shC cA r 5 f = .inr (3, [.ref (r 13), .int (f 1), .int (f 2), .int (f 3), .int (f 4), .int (f 5), va_rf none]) := by
  rw [shC_5]
  unfold fsC3 gtxt
  rw [h]
  rfl
theorem shC_5s {cA : Nat → ClassId} {r : Nat → Nat} {f : Nat → Int32} {t : Nat} (h : gin (f 6 - 1) 6 = true ∧ (f 6 - 1).toNatClampNeg = t) : shC cA r 5 f = .inr (3, [.ref (r 13), .int (f 1), .int (f 2), .int (f 3), .int (f 4), .int (f 5), .ref (r (31 + t))]) := by
  rw [shC_5]
  unfold fsC3 gtxt
  rw [if_pos h.1, h.2]
  rfl
theorem gtxt_nI {t : Nat} (h : t < 6) : gin (nI (t + 1) - 1) 6 = true ∧ (nI (t + 1) - 1).toNatClampNeg = t := by
  match t, h with
  | 0, _ => decide
  | 1, _ => decide
  | 2, _ => decide
  | 3, _ => decide
  | 4, _ => decide
  | 5, _ => decide
/-! what stands outside: three arrays of constants, twelve texts -/
def gWords : List String := ["drinks", "worth", "breaks", "or", "and", "not", "day", "drunk", "full", "empty", "cork", "label"]
def ZC (r : Nat → Nat) : gZ := fun A U H =>
  ((va_Z "ThreeEmpties$Rates" "KIND_ABOVE" "[I" (.ref (r 120)) A U H ∧ va_T .int (r 120) 6 (fun j => .int (gS0 j)) A U H) ∧
  (va_Z "ThreeEmpties" "BOUNDS" "[I" (.ref (r 121)) A U H ∧ va_T .int (r 121) 3 (fun j => .int (gS1 j)) A U H) ∧
  (va_Z "ThreeEmpties$Tape" "NAMED_PLACES" "[I" (.ref (r 122)) A U H ∧ va_T .int (r 122) 6 (fun j => .int (gS2 j)) A U H)) ∧
  va_Z "java/lang/String" "COMPACT_STRINGS" "Z" (.int 1) A U H ∧
  vk_S 12 gWlen gWbyt (fun i => r (100 + i)) (fun i => r (130 + i)) A U H ∧
  (∀ i, i < 12 → vk_R "ThreeEmpties$Tape" (113 + 2 * i) (gWords.getD i "") (r (100 + i)) U) ∧ va_Zq "jdk/internal/util/Preconditions" "SIOOBE_FORMATTER" "Ljava/util/function/BiFunction;" A U H ∧ gNs U
theorem ZC_ok {r : Nat → Nat} : gZok (ZC r) := by
  refine ⟨⟨?_, ?_⟩, ?_, ?_, ?_⟩
  · rintro A u U H hv ⟨⟨⟨a1, a2⟩, ⟨b1, b2⟩, c1, c2⟩, d, e, f, z, g⟩
    have hal : u.vm.Alike U.vm := by rw [hv]; exact Vm.Alike.refl _
    exact ⟨⟨⟨a1.moved hal, a2.moved hal⟩, ⟨b1.moved hal, b2.moved hal⟩, c1.moved hal, c2.moved hal⟩, d.moved hal, e.moved hal, fun i hi => (f i hi).same hv, z.moved hal, g.same hv⟩
  · rintro A u U H hW ⟨⟨⟨a1, a2⟩, ⟨b1, b2⟩, c1, c2⟩, d, e, f, z, g⟩
    have hal : u.vm.Alike U.vm := hW.alike
    exact ⟨⟨⟨a1.moved hal, a2.moved hal⟩, ⟨b1.moved hal, b2.moved hal⟩, c1.moved hal, c2.moved hal⟩, d.moved hal, e.moved hal, fun i hi => (f i hi).warm hW, z.moved hal, g.warm hW⟩
  · rintro A U H H1 ⟨⟨⟨a1, a2⟩, ⟨b1, b2⟩, c1, c2⟩, d, e, f, z, g⟩ hq
    exact ⟨⟨⟨a1.kept hq, a2.kept hq⟩, ⟨b1.kept hq, b2.kept hq⟩, c1.kept hq, c2.kept hq⟩, d.kept hq, e.kept hq, f, z.kept hq, g⟩
  · rintro A B U H ⟨⟨⟨a1, a2⟩, ⟨b1, b2⟩, c1, c2⟩, d, e, f, z, g⟩ hq
    exact ⟨⟨⟨a1.narrow hq, a2.narrow hq⟩, ⟨b1.narrow hq, b2.narrow hq⟩, c1.narrow hq, c2.narrow hq⟩, d.narrow hq, e.narrow hq, f, z.narrow hq, g⟩
  · exact fun A U H h => h.2.2.2.2.2
theorem zZ0 {r : Nat → Nat} (A : Nat → Prop) (U : State) (H : Heap) (h : ZC r A U H) : va_Z "ThreeEmpties$Rates" "KIND_ABOVE" "[I" (.ref (r 120)) A U H := h.1.1.1
theorem zT0 {r : Nat → Nat} (A : Nat → Prop) (U : State) (H : Heap) (h : ZC r A U H) : va_T .int (r 120) 6 (fun j => .int (gS0 j)) A U H := h.1.1.2
theorem zZ1 {r : Nat → Nat} (A : Nat → Prop) (U : State) (H : Heap) (h : ZC r A U H) : va_Z "ThreeEmpties" "BOUNDS" "[I" (.ref (r 121)) A U H := h.1.2.1.1
theorem zT1 {r : Nat → Nat} (A : Nat → Prop) (U : State) (H : Heap) (h : ZC r A U H) : va_T .int (r 121) 3 (fun j => .int (gS1 j)) A U H := h.1.2.1.2
theorem zZ2 {r : Nat → Nat} (A : Nat → Prop) (U : State) (H : Heap) (h : ZC r A U H) : va_Z "ThreeEmpties$Tape" "NAMED_PLACES" "[I" (.ref (r 122)) A U H := h.1.2.2.1
theorem zT2 {r : Nat → Nat} (A : Nat → Prop) (U : State) (H : Heap) (h : ZC r A U H) : va_T .int (r 122) 6 (fun j => .int (gS2 j)) A U H := h.1.2.2.2
abbrev XC (l : Launch) (D : va_G) (cA : Nat → ClassId) (r : Nat → Nat) (own : String) (cc : ByteArray) (nL : Nat) (ret : Option FieldType) (rm : Room) (res : Option Value) (v' : gV) (G : gG) : Prop := CX l D (tysC cA) (shC cA r) 50 r (ZC r) own cc nL ret rm res v' G
/-! the reference's world -/
def fsM6 (r : Nat → Nat) (f : Nat → Int32) : List Value := [.ref (r 1), .int (f 1), .ref (r 2), .ref (r 3), .ref (r 4), .ref (r 5), .int (f 6), .ref (r 6), .int (f 8), .ref (r 7), .ref (r 8), .int (f 11), .int (f 12), .int (f 13), .int (f 14), .int (f 15), .ref (r 9), .ref (r 10), .ref (r 11), .ref (r 12), .ref (r 13), .int (f 21), .int (f 22), .int (f 23), .int (f 24), .ref (r 14), .ref (r 15), .int (f 27), .int (f 28), .int (f 29), .ref (r 16), .ref (r 17), .ref (r 18), .int (f 33), .int (f 34), .int (f 35), .int (f 36)]
def shM (cA : Nat → ClassId) (r : Nat → Nat) : gSh := fun i f => match i with
  | 0 => .inr (6, fsM6 r f)
  | 1 => .inl (cA 0, 7, .inl f)
  | 2 => .inl (cA 0, 5, .inl f)
  | 3 => .inl (cA 0, 5, .inl f)
  | 4 => .inl (cA 0, 5, .inl f)
  | 5 => .inl (cA 0, 5, .inl f)
  | 6 => .inl (cA 0, 160, .inl f)
  | 7 => .inl (cA 0, 1200, .inl f)
  | 8 => .inl (cA 0, 24, .inl f)
  | 9 => .inl (cA 0, 17, .inl f)
  | 10 => .inl (cA 0, 4, .inl f)
  | 11 => .inl (cA 0, 4, .inl f)
  | 12 => .inl (cA 0, 160, .inl f)
  | 13 => .inl (cA 0, 32, .inl f)
  | 14 => .inl (cA 0, 96, .inl f)
  | 15 => .inl (cA 0, 200, .inl f)
  | 16 => .inl (cA 0, 200, .inl f)
  | 17 => .inl (cA 0, 6, .inl f)
  | 18 => .inl (cA 0, 70, .inl f)
  | _ => .inr (0, [])
def tysM (cA : Nat → ClassId) : gT := [(cA 0, .int)]
theorem shM_0 {cA : Nat → ClassId} {r : Nat → Nat} (f : Nat → Int32) : shM cA r 0 f = .inr (6, fsM6 r f) := rfl
theorem hNM_0 : 0 < 19 := by decide
theorem shM_1 {cA : Nat → ClassId} {r : Nat → Nat} (f : Nat → Int32) : shM cA r 1 f = .inl (cA 0, 7, .inl f) := rfl
theorem hNM_1 : 1 < 19 := by decide
theorem shM_2 {cA : Nat → ClassId} {r : Nat → Nat} (f : Nat → Int32) : shM cA r 2 f = .inl (cA 0, 5, .inl f) := rfl
theorem hNM_2 : 2 < 19 := by decide
theorem shM_3 {cA : Nat → ClassId} {r : Nat → Nat} (f : Nat → Int32) : shM cA r 3 f = .inl (cA 0, 5, .inl f) := rfl
theorem hNM_3 : 3 < 19 := by decide
theorem shM_4 {cA : Nat → ClassId} {r : Nat → Nat} (f : Nat → Int32) : shM cA r 4 f = .inl (cA 0, 5, .inl f) := rfl
theorem hNM_4 : 4 < 19 := by decide
theorem shM_5 {cA : Nat → ClassId} {r : Nat → Nat} (f : Nat → Int32) : shM cA r 5 f = .inl (cA 0, 5, .inl f) := rfl
theorem hNM_5 : 5 < 19 := by decide
theorem shM_6 {cA : Nat → ClassId} {r : Nat → Nat} (f : Nat → Int32) : shM cA r 6 f = .inl (cA 0, 160, .inl f) := rfl
theorem hNM_6 : 6 < 19 := by decide
theorem shM_7 {cA : Nat → ClassId} {r : Nat → Nat} (f : Nat → Int32) : shM cA r 7 f = .inl (cA 0, 1200, .inl f) := rfl
theorem hNM_7 : 7 < 19 := by decide
theorem shM_8 {cA : Nat → ClassId} {r : Nat → Nat} (f : Nat → Int32) : shM cA r 8 f = .inl (cA 0, 24, .inl f) := rfl
theorem hNM_8 : 8 < 19 := by decide
theorem shM_9 {cA : Nat → ClassId} {r : Nat → Nat} (f : Nat → Int32) : shM cA r 9 f = .inl (cA 0, 17, .inl f) := rfl
theorem hNM_9 : 9 < 19 := by decide
theorem shM_10 {cA : Nat → ClassId} {r : Nat → Nat} (f : Nat → Int32) : shM cA r 10 f = .inl (cA 0, 4, .inl f) := rfl
theorem hNM_10 : 10 < 19 := by decide
theorem shM_11 {cA : Nat → ClassId} {r : Nat → Nat} (f : Nat → Int32) : shM cA r 11 f = .inl (cA 0, 4, .inl f) := rfl
theorem hNM_11 : 11 < 19 := by decide
theorem shM_12 {cA : Nat → ClassId} {r : Nat → Nat} (f : Nat → Int32) : shM cA r 12 f = .inl (cA 0, 160, .inl f) := rfl
theorem hNM_12 : 12 < 19 := by decide
theorem shM_13 {cA : Nat → ClassId} {r : Nat → Nat} (f : Nat → Int32) : shM cA r 13 f = .inl (cA 0, 32, .inl f) := rfl
theorem hNM_13 : 13 < 19 := by decide
theorem shM_14 {cA : Nat → ClassId} {r : Nat → Nat} (f : Nat → Int32) : shM cA r 14 f = .inl (cA 0, 96, .inl f) := rfl
theorem hNM_14 : 14 < 19 := by decide
theorem shM_15 {cA : Nat → ClassId} {r : Nat → Nat} (f : Nat → Int32) : shM cA r 15 f = .inl (cA 0, 200, .inl f) := rfl
theorem hNM_15 : 15 < 19 := by decide
theorem shM_16 {cA : Nat → ClassId} {r : Nat → Nat} (f : Nat → Int32) : shM cA r 16 f = .inl (cA 0, 200, .inl f) := rfl
theorem hNM_16 : 16 < 19 := by decide
theorem shM_17 {cA : Nat → ClassId} {r : Nat → Nat} (f : Nat → Int32) : shM cA r 17 f = .inl (cA 0, 6, .inl f) := rfl
theorem hNM_17 : 17 < 19 := by decide
theorem shM_18 {cA : Nat → ClassId} {r : Nat → Nat} (f : Nat → Int32) : shM cA r 18 f = .inl (cA 0, 70, .inl f) := rfl
theorem hNM_18 : 18 < 19 := by decide
def ZM (_ : Nat → Nat) : gZ := fun _ U _ => gNs U
theorem ZM_ok {r : Nat → Nat} : gZok (ZM r) := ⟨⟨fun _ _ _ _ hv h => gNs.same hv h, fun _ _ _ _ hW h => gNs.warm hW h⟩, fun _ _ _ _ h _ => h, fun _ _ _ _ h _ => h, fun _ _ _ h => h⟩
abbrev XM (l : Launch) (D : va_G) (cA : Nat → ClassId) (r : Nat → Nat) (own : String) (cc : ByteArray) (nL : Nat) (ret : Option FieldType) (rm : Room) (res : Option Value) (v' : gV) (G : gG) : Prop := CX l D (tysM cA) (shM cA r) 19 r (ZM r) own cc nL ret rm res v' G
/-! rows out of the functions -/
section GZ
variable {l : Launch} {D : va_G} {tys : gT} {sh : gSh} {N : Nat} {r : Nat → Nat} {Z : gZ} {own : String} {cc : ByteArray} {nL : Nat} {ret : Option FieldType} {rm : Room} {res : Option Value} {v' : gV} {G : gG}
variable {v : gV} {ls : List (Nat × Value)} {pc : Nat} {st : List Value}
theorem g_ialdK (X : CX l D tys sh N r Z own cc nL ret rm res v' G) {i n : Nat} {cA : ClassId} {x : Int32} (j : Nat) (hi : i < N) (hs : sh i (v i) = .inl (cA, n, .inl (v i))) (ht : tys[0]? = some (cA, .int)) (hin : vp_in x n ∧ x.toNatClampNeg = j) (hd : decode cc pc = .ok (.iaload, 1)) (kk : G v ls (pc + 1) (.int (v i j) :: st)) : G v ls pc (.int x :: .ref (r i) :: st) := by
  obtain ⟨h1, rfl⟩ := hin
  exact g_iald X hi hs ht h1 hd kk
theorem g_iastK (X : CX l D tys sh N r Z own cc nL ret rm res v' G) {i n : Nat} {cA : ClassId} {x y : Int32} (j : Nat) (hi : i < N) (hs : ∀ f, sh i f = .inl (cA, n, .inl f)) (ht : tys[0]? = some (cA, .int)) (hin : vp_in x n ∧ x.toNatClampNeg = j) (hd : decode cc pc = .ok (.iastore, 1)) (kk : G (up1 v i j y) ls (pc + 1) st) : G v ls pc (.int y :: .int x :: .ref (r i) :: st) := by
  obtain ⟨h1, rfl⟩ := hin
  exact g_iast X hi hs ht h1 hd kk
theorem nfw : nativeFrameWords "java/lang/System" "arraycopy" 5 = 7 := by decide +kernel
theorem g_copyK (X : CX l D tys sh N r Z own cc nL ret rm res v' G) {index i j n0 n1 a b k : Nat} {c0 c1 : ClassId} {sp dp n : Int32} (hc : gCp sp dp n a b k n0 n1) (hlink : Cond.methodLink own index arraycopyName ∈ gw) (hnat : Cond.native arraycopyName ∈ gw) (hstat : Cond.static arraycopyName ∈ gw) (hini : Cond.initialized "java/lang/System" ∈ gw) (hi : i < N) (hj : j < N) (hs : sh i (v i) = .inl (c0, n0, .inl (v i))) (hs1 : ∀ f, sh j f = .inl (c1, n1, .inl f)) (ht0 : tys[0]? = some (c0, .int)) (ht1 : tys[0]? = some (c1, .int)) (hfr : 1 ≤ rm.frames) (hlo : 26 ≤ rm.locals) (hroom : (st.map fun v => v.category).sum ≤ 8) (hd : decode cc pc = .ok (.invokestatic index, 3)) (kk : G (up2 v j (va_cpy (v i) (v j) a b k)) ls (pc + 3) st) : G v ls pc (.int n :: .int dp :: .ref (r j) :: .int sp :: .ref (r i) :: st) := by
  obtain ⟨h1, h2, h3, rfl, rfl, rfl, h4, h5⟩ := hc
  exact g_copy X hlink hnat hstat hini hi hj hs hs1 ht0 ht1 h1 h2 h3 h4 h5 hfr (by rw [nfw]; exact hlo) hroom hd kk
theorem g_iretR {xr : Int32} (X : CX l D tys sh N r Z own cc nL (some .int) rm (some (.int xr)) v' G) {x : Int32} (h : some (x, v) = some (xr, v')) (hd : decode cc pc = .ok (.ireturn, 1)) : G v ls pc [.int x] := by
  cases h
  exact g_iret X rfl rfl hd
theorem g_zretR {xr : Int32} (X : CX l D tys sh N r Z own cc nL (some .boolean) rm (some (.int xr)) v' G) {x : Int32} (hz : x = 0 ∨ x = 1) (h : some (x, v) = some (xr, v')) (hd : decode cc pc = .ok (.ireturn, 1)) : G v ls pc [.int x] := by
  cases h
  exact g_zret X hz rfl rfl hd
theorem g_lretR {xr : Int64} (X : CX l D tys sh N r Z own cc nL (some .long) rm (some (.long xr)) v' G) {x : Int64} (h : some (x, v) = some (xr, v')) (hd : decode cc pc = .ok (.lreturn, 1)) : G v ls pc [.long x] := by
  cases h
  exact g_lret X rfl rfl hd
theorem g_vretR {xr : Unit} (X : CX l D tys sh N r Z own cc nL none rm none v' G) (h : some ((), v) = some (xr, v')) (hd : decode cc pc = .ok (.return_, 1)) : G v ls pc [] := by
  cases h
  exact g_vret X rfl rfl hd
theorem g_aretR {xr : Unit} {a : Nat} {ty : FieldType} (X : CX l D tys sh N r Z own cc nL (some (.array ty)) rm (some (.ref a)) v' G) (h : some ((), v) = some (xr, v')) (hd : decode cc pc = .ok (.areturn, 1)) : G v ls pc [.ref a] := by
  cases h
  exact g_aret X (a := some a) rfl (Or.inr ⟨_, rfl⟩) rfl rfl hd
theorem g_aretN {xr : Option Nat} {f : Nat → Nat} {c : String} (X : CX l D tys sh N r Z own cc nL (some (.object c)) rm (some (va_rf (xr.map f))) v' G) (h : some (none, v) = some (xr, v')) (hd : decode cc pc = .ok (.areturn, 1)) : G v ls pc [va_rf none] := by
  cases h
  exact g_aret X (a := none) rfl (Or.inl ⟨_, rfl⟩) rfl rfl hd
theorem g_aretS {xr : Option Nat} {f : Nat → Nat} {t : Nat} {c : String} (X : CX l D tys sh N r Z own cc nL (some (.object c)) rm (some (va_rf (xr.map f))) v' G) (h : some (some t, v) = some (xr, v')) (hd : decode cc pc = .ok (.areturn, 1)) : G v ls pc [.ref (f t)] := by
  cases h
  exact g_aret X (a := some (f t)) rfl (Or.inl ⟨_, rfl⟩) rfl rfl hd
end GZ
/-- the tape's text -/
theorem g_putT {l : Launch} {D : va_G} {cA : Nat → ClassId} {r : Nat → Nat} {own : String} {cc : ByteArray} {nL : Nat} {ret : Option FieldType} {rm : Room} {res : Option Value} {v' : gV} {G : gG} {v : gV} {ls : List (Nat × Value)} {pc : Nat} {st : List Value} (X : XC l D cA r own cc nL ret rm res v' G) {index t : Nat} (hf : gFldP own index 3 6 (.object "ThreeEmpties$Text")) (ht : t < 6) (hd : decode cc pc = .ok (.putfield index, 3)) (kk : G (up1 v 5 6 (nI (t + 1))) ls (pc + 3) st) : G v ls pc (.ref (r (31 + t)) :: .ref (r 5) :: st) := by
  refine g_putV X (f' := upd (v 5) 6 (nI (t + 1))) hf hNC_5 (shC_5 _) (shC_5s (t := t) (by show gin (upd (v 5) 6 (nI (t + 1)) 6 - 1) 6 = true ∧ _; simp only [upd, if_true]; exact gtxt_nI ht)) ?_ ?_ rfl rfl hd kk
  · rfl
  · show 6 < (fsC3 r (v 5)).length
    simp [fsC3]
