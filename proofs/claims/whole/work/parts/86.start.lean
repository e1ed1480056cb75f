/-! what the start gives (laid by wip/whole/start.py) -/
theorem ss_ex {s : State} {args : Array Value} (hg : (Jvm.Cond.and given_1 narrow_1).before args s = true) : ∀ i : Nat, i < 12 → (Cond.exactly ((fun i => Jvm.Term.string "ThreeEmpties$Tape" (113 + 2 * i)) i) "java/lang/String").before args s = true := by
  have hs := flat_of_before _ hg
  intro i hi
  exact match i, hi with
    | 0, _ => (hs _ (List.mem_of_getElem? (i := 33) (by decide +kernel)))
    | 1, _ => (hs _ (List.mem_of_getElem? (i := 43) (by decide +kernel)))
    | 2, _ => (hs _ (List.mem_of_getElem? (i := 53) (by decide +kernel)))
    | 3, _ => (hs _ (List.mem_of_getElem? (i := 65) (by decide +kernel)))
    | 4, _ => (hs _ (List.mem_of_getElem? (i := 74) (by decide +kernel)))
    | 5, _ => (hs _ (List.mem_of_getElem? (i := 85) (by decide +kernel)))
    | 6, _ => (hs _ (List.mem_of_getElem? (i := 97) (by decide +kernel)))
    | 7, _ => (hs _ (List.mem_of_getElem? (i := 110) (by decide +kernel)))
    | 8, _ => (hs _ (List.mem_of_getElem? (i := 126) (by decide +kernel)))
    | 9, _ => (hs _ (List.mem_of_getElem? (i := 142) (by decide +kernel)))
    | 10, _ => (hs _ (List.mem_of_getElem? (i := 160) (by decide +kernel)))
    | 11, _ => (hs _ (List.mem_of_getElem? (i := 178) (by decide +kernel)))
theorem ss_co {s : State} {args : Array Value} (hg : (Jvm.Cond.and given_1 narrow_1).before args s = true) : ∀ i : Nat, i < 12 → (Cond.eq (.field ((fun i => Jvm.Term.string "ThreeEmpties$Tape" (113 + 2 * i)) i) "java/lang/String" "coder" "B") (.int 0)).before args s = true := by
  have hs := flat_of_before _ hg
  intro i hi
  exact match i, hi with
    | 0, _ => (hs _ (List.mem_of_getElem? (i := 34) (by decide +kernel)))
    | 1, _ => (hs _ (List.mem_of_getElem? (i := 44) (by decide +kernel)))
    | 2, _ => (hs _ (List.mem_of_getElem? (i := 54) (by decide +kernel)))
    | 3, _ => (hs _ (List.mem_of_getElem? (i := 66) (by decide +kernel)))
    | 4, _ => (hs _ (List.mem_of_getElem? (i := 75) (by decide +kernel)))
    | 5, _ => (hs _ (List.mem_of_getElem? (i := 86) (by decide +kernel)))
    | 6, _ => (hs _ (List.mem_of_getElem? (i := 98) (by decide +kernel)))
    | 7, _ => (hs _ (List.mem_of_getElem? (i := 111) (by decide +kernel)))
    | 8, _ => (hs _ (List.mem_of_getElem? (i := 127) (by decide +kernel)))
    | 9, _ => (hs _ (List.mem_of_getElem? (i := 143) (by decide +kernel)))
    | 10, _ => (hs _ (List.mem_of_getElem? (i := 161) (by decide +kernel)))
    | 11, _ => (hs _ (List.mem_of_getElem? (i := 179) (by decide +kernel)))
theorem ss_ar {s : State} {args : Array Value} (hg : (Jvm.Cond.and given_1 narrow_1).before args s = true) : ∀ i : Nat, i < 12 → (Cond.arrayOf (.field ((fun i => Jvm.Term.string "ThreeEmpties$Tape" (113 + 2 * i)) i) "java/lang/String" "value" "[B") .byte).before args s = true := by
  have hs := flat_of_before _ hg
  intro i hi
  exact match i, hi with
    | 0, _ => (hs _ (List.mem_of_getElem? (i := 35) (by decide +kernel)))
    | 1, _ => (hs _ (List.mem_of_getElem? (i := 45) (by decide +kernel)))
    | 2, _ => (hs _ (List.mem_of_getElem? (i := 55) (by decide +kernel)))
    | 3, _ => (hs _ (List.mem_of_getElem? (i := 67) (by decide +kernel)))
    | 4, _ => (hs _ (List.mem_of_getElem? (i := 76) (by decide +kernel)))
    | 5, _ => (hs _ (List.mem_of_getElem? (i := 87) (by decide +kernel)))
    | 6, _ => (hs _ (List.mem_of_getElem? (i := 99) (by decide +kernel)))
    | 7, _ => (hs _ (List.mem_of_getElem? (i := 112) (by decide +kernel)))
    | 8, _ => (hs _ (List.mem_of_getElem? (i := 128) (by decide +kernel)))
    | 9, _ => (hs _ (List.mem_of_getElem? (i := 144) (by decide +kernel)))
    | 10, _ => (hs _ (List.mem_of_getElem? (i := 162) (by decide +kernel)))
    | 11, _ => (hs _ (List.mem_of_getElem? (i := 180) (by decide +kernel)))
theorem ss_le {s : State} {args : Array Value} (hg : (Jvm.Cond.and given_1 narrow_1).before args s = true) : ∀ i : Nat, i < 12 → (Cond.eq (.length (.field ((fun i => Jvm.Term.string "ThreeEmpties$Tape" (113 + 2 * i)) i) "java/lang/String" "value" "[B")) (.int (Int32.ofNat (gWlen.getD i 0)))).before args s = true := by
  have hs := flat_of_before _ hg
  intro i hi
  exact match i, hi with
    | 0, _ => (hs _ (List.mem_of_getElem? (i := 36) (by decide +kernel)))
    | 1, _ => (hs _ (List.mem_of_getElem? (i := 46) (by decide +kernel)))
    | 2, _ => (hs _ (List.mem_of_getElem? (i := 56) (by decide +kernel)))
    | 3, _ => (hs _ (List.mem_of_getElem? (i := 68) (by decide +kernel)))
    | 4, _ => (hs _ (List.mem_of_getElem? (i := 77) (by decide +kernel)))
    | 5, _ => (hs _ (List.mem_of_getElem? (i := 88) (by decide +kernel)))
    | 6, _ => (hs _ (List.mem_of_getElem? (i := 100) (by decide +kernel)))
    | 7, _ => (hs _ (List.mem_of_getElem? (i := 113) (by decide +kernel)))
    | 8, _ => (hs _ (List.mem_of_getElem? (i := 129) (by decide +kernel)))
    | 9, _ => (hs _ (List.mem_of_getElem? (i := 145) (by decide +kernel)))
    | 10, _ => (hs _ (List.mem_of_getElem? (i := 163) (by decide +kernel)))
    | 11, _ => (hs _ (List.mem_of_getElem? (i := 181) (by decide +kernel)))
theorem ss_el0 {s : State} {args : Array Value} (hg : (Jvm.Cond.and given_1 narrow_1).before args s = true) : ∀ j : Nat, j < gWlen.getD 0 0 → (Cond.eq (.elem (.field (Jvm.Term.string "ThreeEmpties$Tape" (113 + 2 * 0)) "java/lang/String" "value" "[B") (.int (Int32.ofNat j))) (.int ((gWbyt.getD 0 []).getD j 0))).before args s = true := by
  have hs := flat_of_before _ hg
  intro j hj
  have hj : j < 6 := hj
  exact match j, hj with
    | 0, _ => (hs _ (List.mem_of_getElem? (i := 37) (by decide +kernel)))
    | 1, _ => (hs _ (List.mem_of_getElem? (i := 38) (by decide +kernel)))
    | 2, _ => (hs _ (List.mem_of_getElem? (i := 39) (by decide +kernel)))
    | 3, _ => (hs _ (List.mem_of_getElem? (i := 40) (by decide +kernel)))
    | 4, _ => (hs _ (List.mem_of_getElem? (i := 41) (by decide +kernel)))
    | 5, _ => (hs _ (List.mem_of_getElem? (i := 42) (by decide +kernel)))
theorem ss_el1 {s : State} {args : Array Value} (hg : (Jvm.Cond.and given_1 narrow_1).before args s = true) : ∀ j : Nat, j < gWlen.getD 1 0 → (Cond.eq (.elem (.field (Jvm.Term.string "ThreeEmpties$Tape" (113 + 2 * 1)) "java/lang/String" "value" "[B") (.int (Int32.ofNat j))) (.int ((gWbyt.getD 1 []).getD j 0))).before args s = true := by
  have hs := flat_of_before _ hg
  intro j hj
  have hj : j < 5 := hj
  exact match j, hj with
    | 0, _ => (hs _ (List.mem_of_getElem? (i := 47) (by decide +kernel)))
    | 1, _ => (hs _ (List.mem_of_getElem? (i := 48) (by decide +kernel)))
    | 2, _ => (hs _ (List.mem_of_getElem? (i := 49) (by decide +kernel)))
    | 3, _ => (hs _ (List.mem_of_getElem? (i := 50) (by decide +kernel)))
    | 4, _ => (hs _ (List.mem_of_getElem? (i := 51) (by decide +kernel)))
theorem ss_el2 {s : State} {args : Array Value} (hg : (Jvm.Cond.and given_1 narrow_1).before args s = true) : ∀ j : Nat, j < gWlen.getD 2 0 → (Cond.eq (.elem (.field (Jvm.Term.string "ThreeEmpties$Tape" (113 + 2 * 2)) "java/lang/String" "value" "[B") (.int (Int32.ofNat j))) (.int ((gWbyt.getD 2 []).getD j 0))).before args s = true := by
  have hs := flat_of_before _ hg
  intro j hj
  have hj : j < 6 := hj
  exact match j, hj with
    | 0, _ => (hs _ (List.mem_of_getElem? (i := 57) (by decide +kernel)))
    | 1, _ => (hs _ (List.mem_of_getElem? (i := 58) (by decide +kernel)))
    | 2, _ => (hs _ (List.mem_of_getElem? (i := 59) (by decide +kernel)))
    | 3, _ => (hs _ (List.mem_of_getElem? (i := 60) (by decide +kernel)))
    | 4, _ => (hs _ (List.mem_of_getElem? (i := 61) (by decide +kernel)))
    | 5, _ => (hs _ (List.mem_of_getElem? (i := 62) (by decide +kernel)))
theorem ss_el3 {s : State} {args : Array Value} (hg : (Jvm.Cond.and given_1 narrow_1).before args s = true) : ∀ j : Nat, j < gWlen.getD 3 0 → (Cond.eq (.elem (.field (Jvm.Term.string "ThreeEmpties$Tape" (113 + 2 * 3)) "java/lang/String" "value" "[B") (.int (Int32.ofNat j))) (.int ((gWbyt.getD 3 []).getD j 0))).before args s = true := by
  have hs := flat_of_before _ hg
  intro j hj
  have hj : j < 2 := hj
  exact match j, hj with
    | 0, _ => (hs _ (List.mem_of_getElem? (i := 69) (by decide +kernel)))
    | 1, _ => (hs _ (List.mem_of_getElem? (i := 70) (by decide +kernel)))
theorem ss_el4 {s : State} {args : Array Value} (hg : (Jvm.Cond.and given_1 narrow_1).before args s = true) : ∀ j : Nat, j < gWlen.getD 4 0 → (Cond.eq (.elem (.field (Jvm.Term.string "ThreeEmpties$Tape" (113 + 2 * 4)) "java/lang/String" "value" "[B") (.int (Int32.ofNat j))) (.int ((gWbyt.getD 4 []).getD j 0))).before args s = true := by
  have hs := flat_of_before _ hg
  intro j hj
  have hj : j < 3 := hj
  exact match j, hj with
    | 0, _ => (hs _ (List.mem_of_getElem? (i := 78) (by decide +kernel)))
    | 1, _ => (hs _ (List.mem_of_getElem? (i := 79) (by decide +kernel)))
    | 2, _ => (hs _ (List.mem_of_getElem? (i := 80) (by decide +kernel)))
theorem ss_el5 {s : State} {args : Array Value} (hg : (Jvm.Cond.and given_1 narrow_1).before args s = true) : ∀ j : Nat, j < gWlen.getD 5 0 → (Cond.eq (.elem (.field (Jvm.Term.string "ThreeEmpties$Tape" (113 + 2 * 5)) "java/lang/String" "value" "[B") (.int (Int32.ofNat j))) (.int ((gWbyt.getD 5 []).getD j 0))).before args s = true := by
  have hs := flat_of_before _ hg
  intro j hj
  have hj : j < 3 := hj
  exact match j, hj with
    | 0, _ => (hs _ (List.mem_of_getElem? (i := 89) (by decide +kernel)))
    | 1, _ => (hs _ (List.mem_of_getElem? (i := 90) (by decide +kernel)))
    | 2, _ => (hs _ (List.mem_of_getElem? (i := 91) (by decide +kernel)))
theorem ss_el6 {s : State} {args : Array Value} (hg : (Jvm.Cond.and given_1 narrow_1).before args s = true) : ∀ j : Nat, j < gWlen.getD 6 0 → (Cond.eq (.elem (.field (Jvm.Term.string "ThreeEmpties$Tape" (113 + 2 * 6)) "java/lang/String" "value" "[B") (.int (Int32.ofNat j))) (.int ((gWbyt.getD 6 []).getD j 0))).before args s = true := by
  have hs := flat_of_before _ hg
  intro j hj
  have hj : j < 3 := hj
  exact match j, hj with
    | 0, _ => (hs _ (List.mem_of_getElem? (i := 101) (by decide +kernel)))
    | 1, _ => (hs _ (List.mem_of_getElem? (i := 102) (by decide +kernel)))
    | 2, _ => (hs _ (List.mem_of_getElem? (i := 103) (by decide +kernel)))
theorem ss_el7 {s : State} {args : Array Value} (hg : (Jvm.Cond.and given_1 narrow_1).before args s = true) : ∀ j : Nat, j < gWlen.getD 7 0 → (Cond.eq (.elem (.field (Jvm.Term.string "ThreeEmpties$Tape" (113 + 2 * 7)) "java/lang/String" "value" "[B") (.int (Int32.ofNat j))) (.int ((gWbyt.getD 7 []).getD j 0))).before args s = true := by
  have hs := flat_of_before _ hg
  intro j hj
  have hj : j < 5 := hj
  exact match j, hj with
    | 0, _ => (hs _ (List.mem_of_getElem? (i := 114) (by decide +kernel)))
    | 1, _ => (hs _ (List.mem_of_getElem? (i := 115) (by decide +kernel)))
    | 2, _ => (hs _ (List.mem_of_getElem? (i := 116) (by decide +kernel)))
    | 3, _ => (hs _ (List.mem_of_getElem? (i := 117) (by decide +kernel)))
    | 4, _ => (hs _ (List.mem_of_getElem? (i := 118) (by decide +kernel)))
theorem ss_el8 {s : State} {args : Array Value} (hg : (Jvm.Cond.and given_1 narrow_1).before args s = true) : ∀ j : Nat, j < gWlen.getD 8 0 → (Cond.eq (.elem (.field (Jvm.Term.string "ThreeEmpties$Tape" (113 + 2 * 8)) "java/lang/String" "value" "[B") (.int (Int32.ofNat j))) (.int ((gWbyt.getD 8 []).getD j 0))).before args s = true := by
  have hs := flat_of_before _ hg
  intro j hj
  have hj : j < 4 := hj
  exact match j, hj with
    | 0, _ => (hs _ (List.mem_of_getElem? (i := 130) (by decide +kernel)))
    | 1, _ => (hs _ (List.mem_of_getElem? (i := 131) (by decide +kernel)))
    | 2, _ => (hs _ (List.mem_of_getElem? (i := 132) (by decide +kernel)))
    | 3, _ => (hs _ (List.mem_of_getElem? (i := 133) (by decide +kernel)))
theorem ss_el9 {s : State} {args : Array Value} (hg : (Jvm.Cond.and given_1 narrow_1).before args s = true) : ∀ j : Nat, j < gWlen.getD 9 0 → (Cond.eq (.elem (.field (Jvm.Term.string "ThreeEmpties$Tape" (113 + 2 * 9)) "java/lang/String" "value" "[B") (.int (Int32.ofNat j))) (.int ((gWbyt.getD 9 []).getD j 0))).before args s = true := by
  have hs := flat_of_before _ hg
  intro j hj
  have hj : j < 5 := hj
  exact match j, hj with
    | 0, _ => (hs _ (List.mem_of_getElem? (i := 146) (by decide +kernel)))
    | 1, _ => (hs _ (List.mem_of_getElem? (i := 147) (by decide +kernel)))
    | 2, _ => (hs _ (List.mem_of_getElem? (i := 148) (by decide +kernel)))
    | 3, _ => (hs _ (List.mem_of_getElem? (i := 149) (by decide +kernel)))
    | 4, _ => (hs _ (List.mem_of_getElem? (i := 150) (by decide +kernel)))
theorem ss_el10 {s : State} {args : Array Value} (hg : (Jvm.Cond.and given_1 narrow_1).before args s = true) : ∀ j : Nat, j < gWlen.getD 10 0 → (Cond.eq (.elem (.field (Jvm.Term.string "ThreeEmpties$Tape" (113 + 2 * 10)) "java/lang/String" "value" "[B") (.int (Int32.ofNat j))) (.int ((gWbyt.getD 10 []).getD j 0))).before args s = true := by
  have hs := flat_of_before _ hg
  intro j hj
  have hj : j < 4 := hj
  exact match j, hj with
    | 0, _ => (hs _ (List.mem_of_getElem? (i := 164) (by decide +kernel)))
    | 1, _ => (hs _ (List.mem_of_getElem? (i := 165) (by decide +kernel)))
    | 2, _ => (hs _ (List.mem_of_getElem? (i := 166) (by decide +kernel)))
    | 3, _ => (hs _ (List.mem_of_getElem? (i := 167) (by decide +kernel)))
theorem ss_el11 {s : State} {args : Array Value} (hg : (Jvm.Cond.and given_1 narrow_1).before args s = true) : ∀ j : Nat, j < gWlen.getD 11 0 → (Cond.eq (.elem (.field (Jvm.Term.string "ThreeEmpties$Tape" (113 + 2 * 11)) "java/lang/String" "value" "[B") (.int (Int32.ofNat j))) (.int ((gWbyt.getD 11 []).getD j 0))).before args s = true := by
  have hs := flat_of_before _ hg
  intro j hj
  have hj : j < 5 := hj
  exact match j, hj with
    | 0, _ => (hs _ (List.mem_of_getElem? (i := 182) (by decide +kernel)))
    | 1, _ => (hs _ (List.mem_of_getElem? (i := 183) (by decide +kernel)))
    | 2, _ => (hs _ (List.mem_of_getElem? (i := 184) (by decide +kernel)))
    | 3, _ => (hs _ (List.mem_of_getElem? (i := 185) (by decide +kernel)))
    | 4, _ => (hs _ (List.mem_of_getElem? (i := 186) (by decide +kernel)))
theorem ss_el {s : State} {args : Array Value} (hg : (Jvm.Cond.and given_1 narrow_1).before args s = true) : ∀ i : Nat, i < 12 → ∀ j : Nat, j < gWlen.getD i 0 → (Cond.eq (.elem (.field ((fun i => Jvm.Term.string "ThreeEmpties$Tape" (113 + 2 * i)) i) "java/lang/String" "value" "[B") (.int (Int32.ofNat j))) (.int ((gWbyt.getD i []).getD j 0))).before args s = true := by
  intro i hi
  exact match i, hi with
    | 0, _ => ss_el0 hg
    | 1, _ => ss_el1 hg
    | 2, _ => ss_el2 hg
    | 3, _ => ss_el3 hg
    | 4, _ => ss_el4 hg
    | 5, _ => ss_el5 hg
    | 6, _ => ss_el6 hg
    | 7, _ => ss_el7 hg
    | 8, _ => ss_el8 hg
    | 9, _ => ss_el9 hg
    | 10, _ => ss_el10 hg
    | 11, _ => ss_el11 hg
theorem ss_ne0 {s : State} {args : Array Value} (hg : (Jvm.Cond.and given_1 narrow_1).before args s = true) : ∀ j : Nat, j < 12 → 0 ≠ j → (Cond.not (Cond.eq (Jvm.Term.string "ThreeEmpties$Tape" (113 + 2 * 0)) (Jvm.Term.string "ThreeEmpties$Tape" (113 + 2 * j)))).before args s = true ∨ (Cond.not (Cond.eq (Jvm.Term.string "ThreeEmpties$Tape" (113 + 2 * j)) (Jvm.Term.string "ThreeEmpties$Tape" (113 + 2 * 0)))).before args s = true := by
  have hs := flat_of_before _ hg
  intro j hj hij
  exact match j, hj with
    | 0, _ => absurd rfl hij
    | 1, _ => Or.inl (hs _ (List.mem_of_getElem? (i := 52) (by decide +kernel)))
    | 2, _ => Or.inl (hs _ (List.mem_of_getElem? (i := 63) (by decide +kernel)))
    | 3, _ => Or.inl (hs _ (List.mem_of_getElem? (i := 71) (by decide +kernel)))
    | 4, _ => Or.inl (hs _ (List.mem_of_getElem? (i := 81) (by decide +kernel)))
    | 5, _ => Or.inl (hs _ (List.mem_of_getElem? (i := 92) (by decide +kernel)))
    | 6, _ => Or.inl (hs _ (List.mem_of_getElem? (i := 104) (by decide +kernel)))
    | 7, _ => Or.inl (hs _ (List.mem_of_getElem? (i := 119) (by decide +kernel)))
    | 8, _ => Or.inl (hs _ (List.mem_of_getElem? (i := 134) (by decide +kernel)))
    | 9, _ => Or.inl (hs _ (List.mem_of_getElem? (i := 151) (by decide +kernel)))
    | 10, _ => Or.inl (hs _ (List.mem_of_getElem? (i := 168) (by decide +kernel)))
    | 11, _ => Or.inl (hs _ (List.mem_of_getElem? (i := 187) (by decide +kernel)))
theorem ss_ne1 {s : State} {args : Array Value} (hg : (Jvm.Cond.and given_1 narrow_1).before args s = true) : ∀ j : Nat, j < 12 → 1 ≠ j → (Cond.not (Cond.eq (Jvm.Term.string "ThreeEmpties$Tape" (113 + 2 * 1)) (Jvm.Term.string "ThreeEmpties$Tape" (113 + 2 * j)))).before args s = true ∨ (Cond.not (Cond.eq (Jvm.Term.string "ThreeEmpties$Tape" (113 + 2 * j)) (Jvm.Term.string "ThreeEmpties$Tape" (113 + 2 * 1)))).before args s = true := by
  have hs := flat_of_before _ hg
  intro j hj hij
  exact match j, hj with
    | 0, _ => Or.inr (hs _ (List.mem_of_getElem? (i := 52) (by decide +kernel)))
    | 1, _ => absurd rfl hij
    | 2, _ => Or.inl (hs _ (List.mem_of_getElem? (i := 64) (by decide +kernel)))
    | 3, _ => Or.inl (hs _ (List.mem_of_getElem? (i := 72) (by decide +kernel)))
    | 4, _ => Or.inl (hs _ (List.mem_of_getElem? (i := 82) (by decide +kernel)))
    | 5, _ => Or.inl (hs _ (List.mem_of_getElem? (i := 93) (by decide +kernel)))
    | 6, _ => Or.inl (hs _ (List.mem_of_getElem? (i := 105) (by decide +kernel)))
    | 7, _ => Or.inl (hs _ (List.mem_of_getElem? (i := 120) (by decide +kernel)))
    | 8, _ => Or.inl (hs _ (List.mem_of_getElem? (i := 135) (by decide +kernel)))
    | 9, _ => Or.inl (hs _ (List.mem_of_getElem? (i := 152) (by decide +kernel)))
    | 10, _ => Or.inl (hs _ (List.mem_of_getElem? (i := 169) (by decide +kernel)))
    | 11, _ => Or.inl (hs _ (List.mem_of_getElem? (i := 188) (by decide +kernel)))
theorem ss_ne2 {s : State} {args : Array Value} (hg : (Jvm.Cond.and given_1 narrow_1).before args s = true) : ∀ j : Nat, j < 12 → 2 ≠ j → (Cond.not (Cond.eq (Jvm.Term.string "ThreeEmpties$Tape" (113 + 2 * 2)) (Jvm.Term.string "ThreeEmpties$Tape" (113 + 2 * j)))).before args s = true ∨ (Cond.not (Cond.eq (Jvm.Term.string "ThreeEmpties$Tape" (113 + 2 * j)) (Jvm.Term.string "ThreeEmpties$Tape" (113 + 2 * 2)))).before args s = true := by
  have hs := flat_of_before _ hg
  intro j hj hij
  exact match j, hj with
    | 0, _ => Or.inr (hs _ (List.mem_of_getElem? (i := 63) (by decide +kernel)))
    | 1, _ => Or.inr (hs _ (List.mem_of_getElem? (i := 64) (by decide +kernel)))
    | 2, _ => absurd rfl hij
    | 3, _ => Or.inl (hs _ (List.mem_of_getElem? (i := 73) (by decide +kernel)))
    | 4, _ => Or.inl (hs _ (List.mem_of_getElem? (i := 83) (by decide +kernel)))
    | 5, _ => Or.inl (hs _ (List.mem_of_getElem? (i := 94) (by decide +kernel)))
    | 6, _ => Or.inl (hs _ (List.mem_of_getElem? (i := 106) (by decide +kernel)))
    | 7, _ => Or.inl (hs _ (List.mem_of_getElem? (i := 121) (by decide +kernel)))
    | 8, _ => Or.inl (hs _ (List.mem_of_getElem? (i := 136) (by decide +kernel)))
    | 9, _ => Or.inl (hs _ (List.mem_of_getElem? (i := 153) (by decide +kernel)))
    | 10, _ => Or.inl (hs _ (List.mem_of_getElem? (i := 170) (by decide +kernel)))
    | 11, _ => Or.inl (hs _ (List.mem_of_getElem? (i := 189) (by decide +kernel)))
theorem ss_ne3 {s : State} {args : Array Value} (hg : (Jvm.Cond.and given_1 narrow_1).before args s = true) : ∀ j : Nat, j < 12 → 3 ≠ j → (Cond.not (Cond.eq (Jvm.Term.string "ThreeEmpties$Tape" (113 + 2 * 3)) (Jvm.Term.string "ThreeEmpties$Tape" (113 + 2 * j)))).before args s = true ∨ (Cond.not (Cond.eq (Jvm.Term.string "ThreeEmpties$Tape" (113 + 2 * j)) (Jvm.Term.string "ThreeEmpties$Tape" (113 + 2 * 3)))).before args s = true := by
  have hs := flat_of_before _ hg
  intro j hj hij
  exact match j, hj with
    | 0, _ => Or.inr (hs _ (List.mem_of_getElem? (i := 71) (by decide +kernel)))
    | 1, _ => Or.inr (hs _ (List.mem_of_getElem? (i := 72) (by decide +kernel)))
    | 2, _ => Or.inr (hs _ (List.mem_of_getElem? (i := 73) (by decide +kernel)))
    | 3, _ => absurd rfl hij
    | 4, _ => Or.inl (hs _ (List.mem_of_getElem? (i := 84) (by decide +kernel)))
    | 5, _ => Or.inl (hs _ (List.mem_of_getElem? (i := 95) (by decide +kernel)))
    | 6, _ => Or.inl (hs _ (List.mem_of_getElem? (i := 107) (by decide +kernel)))
    | 7, _ => Or.inl (hs _ (List.mem_of_getElem? (i := 122) (by decide +kernel)))
    | 8, _ => Or.inl (hs _ (List.mem_of_getElem? (i := 137) (by decide +kernel)))
    | 9, _ => Or.inl (hs _ (List.mem_of_getElem? (i := 154) (by decide +kernel)))
    | 10, _ => Or.inl (hs _ (List.mem_of_getElem? (i := 171) (by decide +kernel)))
    | 11, _ => Or.inl (hs _ (List.mem_of_getElem? (i := 190) (by decide +kernel)))
theorem ss_ne4 {s : State} {args : Array Value} (hg : (Jvm.Cond.and given_1 narrow_1).before args s = true) : ∀ j : Nat, j < 12 → 4 ≠ j → (Cond.not (Cond.eq (Jvm.Term.string "ThreeEmpties$Tape" (113 + 2 * 4)) (Jvm.Term.string "ThreeEmpties$Tape" (113 + 2 * j)))).before args s = true ∨ (Cond.not (Cond.eq (Jvm.Term.string "ThreeEmpties$Tape" (113 + 2 * j)) (Jvm.Term.string "ThreeEmpties$Tape" (113 + 2 * 4)))).before args s = true := by
  have hs := flat_of_before _ hg
  intro j hj hij
  exact match j, hj with
    | 0, _ => Or.inr (hs _ (List.mem_of_getElem? (i := 81) (by decide +kernel)))
    | 1, _ => Or.inr (hs _ (List.mem_of_getElem? (i := 82) (by decide +kernel)))
    | 2, _ => Or.inr (hs _ (List.mem_of_getElem? (i := 83) (by decide +kernel)))
    | 3, _ => Or.inr (hs _ (List.mem_of_getElem? (i := 84) (by decide +kernel)))
    | 4, _ => absurd rfl hij
    | 5, _ => Or.inl (hs _ (List.mem_of_getElem? (i := 96) (by decide +kernel)))
    | 6, _ => Or.inl (hs _ (List.mem_of_getElem? (i := 108) (by decide +kernel)))
    | 7, _ => Or.inl (hs _ (List.mem_of_getElem? (i := 123) (by decide +kernel)))
    | 8, _ => Or.inl (hs _ (List.mem_of_getElem? (i := 138) (by decide +kernel)))
    | 9, _ => Or.inl (hs _ (List.mem_of_getElem? (i := 155) (by decide +kernel)))
    | 10, _ => Or.inl (hs _ (List.mem_of_getElem? (i := 172) (by decide +kernel)))
    | 11, _ => Or.inl (hs _ (List.mem_of_getElem? (i := 191) (by decide +kernel)))
theorem ss_ne5 {s : State} {args : Array Value} (hg : (Jvm.Cond.and given_1 narrow_1).before args s = true) : ∀ j : Nat, j < 12 → 5 ≠ j → (Cond.not (Cond.eq (Jvm.Term.string "ThreeEmpties$Tape" (113 + 2 * 5)) (Jvm.Term.string "ThreeEmpties$Tape" (113 + 2 * j)))).before args s = true ∨ (Cond.not (Cond.eq (Jvm.Term.string "ThreeEmpties$Tape" (113 + 2 * j)) (Jvm.Term.string "ThreeEmpties$Tape" (113 + 2 * 5)))).before args s = true := by
  have hs := flat_of_before _ hg
  intro j hj hij
  exact match j, hj with
    | 0, _ => Or.inr (hs _ (List.mem_of_getElem? (i := 92) (by decide +kernel)))
    | 1, _ => Or.inr (hs _ (List.mem_of_getElem? (i := 93) (by decide +kernel)))
    | 2, _ => Or.inr (hs _ (List.mem_of_getElem? (i := 94) (by decide +kernel)))
    | 3, _ => Or.inr (hs _ (List.mem_of_getElem? (i := 95) (by decide +kernel)))
    | 4, _ => Or.inr (hs _ (List.mem_of_getElem? (i := 96) (by decide +kernel)))
    | 5, _ => absurd rfl hij
    | 6, _ => Or.inl (hs _ (List.mem_of_getElem? (i := 109) (by decide +kernel)))
    | 7, _ => Or.inl (hs _ (List.mem_of_getElem? (i := 124) (by decide +kernel)))
    | 8, _ => Or.inl (hs _ (List.mem_of_getElem? (i := 139) (by decide +kernel)))
    | 9, _ => Or.inl (hs _ (List.mem_of_getElem? (i := 156) (by decide +kernel)))
    | 10, _ => Or.inl (hs _ (List.mem_of_getElem? (i := 173) (by decide +kernel)))
    | 11, _ => Or.inl (hs _ (List.mem_of_getElem? (i := 192) (by decide +kernel)))
theorem ss_ne6 {s : State} {args : Array Value} (hg : (Jvm.Cond.and given_1 narrow_1).before args s = true) : ∀ j : Nat, j < 12 → 6 ≠ j → (Cond.not (Cond.eq (Jvm.Term.string "ThreeEmpties$Tape" (113 + 2 * 6)) (Jvm.Term.string "ThreeEmpties$Tape" (113 + 2 * j)))).before args s = true ∨ (Cond.not (Cond.eq (Jvm.Term.string "ThreeEmpties$Tape" (113 + 2 * j)) (Jvm.Term.string "ThreeEmpties$Tape" (113 + 2 * 6)))).before args s = true := by
  have hs := flat_of_before _ hg
  intro j hj hij
  exact match j, hj with
    | 0, _ => Or.inr (hs _ (List.mem_of_getElem? (i := 104) (by decide +kernel)))
    | 1, _ => Or.inr (hs _ (List.mem_of_getElem? (i := 105) (by decide +kernel)))
    | 2, _ => Or.inr (hs _ (List.mem_of_getElem? (i := 106) (by decide +kernel)))
    | 3, _ => Or.inr (hs _ (List.mem_of_getElem? (i := 107) (by decide +kernel)))
    | 4, _ => Or.inr (hs _ (List.mem_of_getElem? (i := 108) (by decide +kernel)))
    | 5, _ => Or.inr (hs _ (List.mem_of_getElem? (i := 109) (by decide +kernel)))
    | 6, _ => absurd rfl hij
    | 7, _ => Or.inl (hs _ (List.mem_of_getElem? (i := 125) (by decide +kernel)))
    | 8, _ => Or.inl (hs _ (List.mem_of_getElem? (i := 140) (by decide +kernel)))
    | 9, _ => Or.inl (hs _ (List.mem_of_getElem? (i := 157) (by decide +kernel)))
    | 10, _ => Or.inl (hs _ (List.mem_of_getElem? (i := 174) (by decide +kernel)))
    | 11, _ => Or.inl (hs _ (List.mem_of_getElem? (i := 193) (by decide +kernel)))
theorem ss_ne7 {s : State} {args : Array Value} (hg : (Jvm.Cond.and given_1 narrow_1).before args s = true) : ∀ j : Nat, j < 12 → 7 ≠ j → (Cond.not (Cond.eq (Jvm.Term.string "ThreeEmpties$Tape" (113 + 2 * 7)) (Jvm.Term.string "ThreeEmpties$Tape" (113 + 2 * j)))).before args s = true ∨ (Cond.not (Cond.eq (Jvm.Term.string "ThreeEmpties$Tape" (113 + 2 * j)) (Jvm.Term.string "ThreeEmpties$Tape" (113 + 2 * 7)))).before args s = true := by
  have hs := flat_of_before _ hg
  intro j hj hij
  exact match j, hj with
    | 0, _ => Or.inr (hs _ (List.mem_of_getElem? (i := 119) (by decide +kernel)))
    | 1, _ => Or.inr (hs _ (List.mem_of_getElem? (i := 120) (by decide +kernel)))
    | 2, _ => Or.inr (hs _ (List.mem_of_getElem? (i := 121) (by decide +kernel)))
    | 3, _ => Or.inr (hs _ (List.mem_of_getElem? (i := 122) (by decide +kernel)))
    | 4, _ => Or.inr (hs _ (List.mem_of_getElem? (i := 123) (by decide +kernel)))
    | 5, _ => Or.inr (hs _ (List.mem_of_getElem? (i := 124) (by decide +kernel)))
    | 6, _ => Or.inr (hs _ (List.mem_of_getElem? (i := 125) (by decide +kernel)))
    | 7, _ => absurd rfl hij
    | 8, _ => Or.inl (hs _ (List.mem_of_getElem? (i := 141) (by decide +kernel)))
    | 9, _ => Or.inl (hs _ (List.mem_of_getElem? (i := 158) (by decide +kernel)))
    | 10, _ => Or.inl (hs _ (List.mem_of_getElem? (i := 175) (by decide +kernel)))
    | 11, _ => Or.inl (hs _ (List.mem_of_getElem? (i := 194) (by decide +kernel)))
theorem ss_ne8 {s : State} {args : Array Value} (hg : (Jvm.Cond.and given_1 narrow_1).before args s = true) : ∀ j : Nat, j < 12 → 8 ≠ j → (Cond.not (Cond.eq (Jvm.Term.string "ThreeEmpties$Tape" (113 + 2 * 8)) (Jvm.Term.string "ThreeEmpties$Tape" (113 + 2 * j)))).before args s = true ∨ (Cond.not (Cond.eq (Jvm.Term.string "ThreeEmpties$Tape" (113 + 2 * j)) (Jvm.Term.string "ThreeEmpties$Tape" (113 + 2 * 8)))).before args s = true := by
  have hs := flat_of_before _ hg
  intro j hj hij
  exact match j, hj with
    | 0, _ => Or.inr (hs _ (List.mem_of_getElem? (i := 134) (by decide +kernel)))
    | 1, _ => Or.inr (hs _ (List.mem_of_getElem? (i := 135) (by decide +kernel)))
    | 2, _ => Or.inr (hs _ (List.mem_of_getElem? (i := 136) (by decide +kernel)))
    | 3, _ => Or.inr (hs _ (List.mem_of_getElem? (i := 137) (by decide +kernel)))
    | 4, _ => Or.inr (hs _ (List.mem_of_getElem? (i := 138) (by decide +kernel)))
    | 5, _ => Or.inr (hs _ (List.mem_of_getElem? (i := 139) (by decide +kernel)))
    | 6, _ => Or.inr (hs _ (List.mem_of_getElem? (i := 140) (by decide +kernel)))
    | 7, _ => Or.inr (hs _ (List.mem_of_getElem? (i := 141) (by decide +kernel)))
    | 8, _ => absurd rfl hij
    | 9, _ => Or.inl (hs _ (List.mem_of_getElem? (i := 159) (by decide +kernel)))
    | 10, _ => Or.inl (hs _ (List.mem_of_getElem? (i := 176) (by decide +kernel)))
    | 11, _ => Or.inl (hs _ (List.mem_of_getElem? (i := 195) (by decide +kernel)))
theorem ss_ne9 {s : State} {args : Array Value} (hg : (Jvm.Cond.and given_1 narrow_1).before args s = true) : ∀ j : Nat, j < 12 → 9 ≠ j → (Cond.not (Cond.eq (Jvm.Term.string "ThreeEmpties$Tape" (113 + 2 * 9)) (Jvm.Term.string "ThreeEmpties$Tape" (113 + 2 * j)))).before args s = true ∨ (Cond.not (Cond.eq (Jvm.Term.string "ThreeEmpties$Tape" (113 + 2 * j)) (Jvm.Term.string "ThreeEmpties$Tape" (113 + 2 * 9)))).before args s = true := by
  have hs := flat_of_before _ hg
  intro j hj hij
  exact match j, hj with
    | 0, _ => Or.inr (hs _ (List.mem_of_getElem? (i := 151) (by decide +kernel)))
    | 1, _ => Or.inr (hs _ (List.mem_of_getElem? (i := 152) (by decide +kernel)))
    | 2, _ => Or.inr (hs _ (List.mem_of_getElem? (i := 153) (by decide +kernel)))
    | 3, _ => Or.inr (hs _ (List.mem_of_getElem? (i := 154) (by decide +kernel)))
    | 4, _ => Or.inr (hs _ (List.mem_of_getElem? (i := 155) (by decide +kernel)))
    | 5, _ => Or.inr (hs _ (List.mem_of_getElem? (i := 156) (by decide +kernel)))
    | 6, _ => Or.inr (hs _ (List.mem_of_getElem? (i := 157) (by decide +kernel)))
    | 7, _ => Or.inr (hs _ (List.mem_of_getElem? (i := 158) (by decide +kernel)))
    | 8, _ => Or.inr (hs _ (List.mem_of_getElem? (i := 159) (by decide +kernel)))
    | 9, _ => absurd rfl hij
    | 10, _ => Or.inl (hs _ (List.mem_of_getElem? (i := 177) (by decide +kernel)))
    | 11, _ => Or.inl (hs _ (List.mem_of_getElem? (i := 196) (by decide +kernel)))
theorem ss_ne10 {s : State} {args : Array Value} (hg : (Jvm.Cond.and given_1 narrow_1).before args s = true) : ∀ j : Nat, j < 12 → 10 ≠ j → (Cond.not (Cond.eq (Jvm.Term.string "ThreeEmpties$Tape" (113 + 2 * 10)) (Jvm.Term.string "ThreeEmpties$Tape" (113 + 2 * j)))).before args s = true ∨ (Cond.not (Cond.eq (Jvm.Term.string "ThreeEmpties$Tape" (113 + 2 * j)) (Jvm.Term.string "ThreeEmpties$Tape" (113 + 2 * 10)))).before args s = true := by
  have hs := flat_of_before _ hg
  intro j hj hij
  exact match j, hj with
    | 0, _ => Or.inr (hs _ (List.mem_of_getElem? (i := 168) (by decide +kernel)))
    | 1, _ => Or.inr (hs _ (List.mem_of_getElem? (i := 169) (by decide +kernel)))
    | 2, _ => Or.inr (hs _ (List.mem_of_getElem? (i := 170) (by decide +kernel)))
    | 3, _ => Or.inr (hs _ (List.mem_of_getElem? (i := 171) (by decide +kernel)))
    | 4, _ => Or.inr (hs _ (List.mem_of_getElem? (i := 172) (by decide +kernel)))
    | 5, _ => Or.inr (hs _ (List.mem_of_getElem? (i := 173) (by decide +kernel)))
    | 6, _ => Or.inr (hs _ (List.mem_of_getElem? (i := 174) (by decide +kernel)))
    | 7, _ => Or.inr (hs _ (List.mem_of_getElem? (i := 175) (by decide +kernel)))
    | 8, _ => Or.inr (hs _ (List.mem_of_getElem? (i := 176) (by decide +kernel)))
    | 9, _ => Or.inr (hs _ (List.mem_of_getElem? (i := 177) (by decide +kernel)))
    | 10, _ => absurd rfl hij
    | 11, _ => Or.inl (hs _ (List.mem_of_getElem? (i := 197) (by decide +kernel)))
theorem ss_ne11 {s : State} {args : Array Value} (hg : (Jvm.Cond.and given_1 narrow_1).before args s = true) : ∀ j : Nat, j < 12 → 11 ≠ j → (Cond.not (Cond.eq (Jvm.Term.string "ThreeEmpties$Tape" (113 + 2 * 11)) (Jvm.Term.string "ThreeEmpties$Tape" (113 + 2 * j)))).before args s = true ∨ (Cond.not (Cond.eq (Jvm.Term.string "ThreeEmpties$Tape" (113 + 2 * j)) (Jvm.Term.string "ThreeEmpties$Tape" (113 + 2 * 11)))).before args s = true := by
  have hs := flat_of_before _ hg
  intro j hj hij
  exact match j, hj with
    | 0, _ => Or.inr (hs _ (List.mem_of_getElem? (i := 187) (by decide +kernel)))
    | 1, _ => Or.inr (hs _ (List.mem_of_getElem? (i := 188) (by decide +kernel)))
    | 2, _ => Or.inr (hs _ (List.mem_of_getElem? (i := 189) (by decide +kernel)))
    | 3, _ => Or.inr (hs _ (List.mem_of_getElem? (i := 190) (by decide +kernel)))
    | 4, _ => Or.inr (hs _ (List.mem_of_getElem? (i := 191) (by decide +kernel)))
    | 5, _ => Or.inr (hs _ (List.mem_of_getElem? (i := 192) (by decide +kernel)))
    | 6, _ => Or.inr (hs _ (List.mem_of_getElem? (i := 193) (by decide +kernel)))
    | 7, _ => Or.inr (hs _ (List.mem_of_getElem? (i := 194) (by decide +kernel)))
    | 8, _ => Or.inr (hs _ (List.mem_of_getElem? (i := 195) (by decide +kernel)))
    | 9, _ => Or.inr (hs _ (List.mem_of_getElem? (i := 196) (by decide +kernel)))
    | 10, _ => Or.inr (hs _ (List.mem_of_getElem? (i := 197) (by decide +kernel)))
    | 11, _ => absurd rfl hij
theorem ss_ne {s : State} {args : Array Value} (hg : (Jvm.Cond.and given_1 narrow_1).before args s = true) : ∀ i j : Nat, i < 12 → j < 12 → i ≠ j → (Cond.not (Cond.eq ((fun i => Jvm.Term.string "ThreeEmpties$Tape" (113 + 2 * i)) i) ((fun i => Jvm.Term.string "ThreeEmpties$Tape" (113 + 2 * i)) j))).before args s = true ∨ (Cond.not (Cond.eq ((fun i => Jvm.Term.string "ThreeEmpties$Tape" (113 + 2 * i)) j) ((fun i => Jvm.Term.string "ThreeEmpties$Tape" (113 + 2 * i)) i))).before args s = true := by
  intro i j hi
  exact match i, hi with
    | 0, _ => ss_ne0 hg j
    | 1, _ => ss_ne1 hg j
    | 2, _ => ss_ne2 hg j
    | 3, _ => ss_ne3 hg j
    | 4, _ => ss_ne4 hg j
    | 5, _ => ss_ne5 hg j
    | 6, _ => ss_ne6 hg j
    | 7, _ => ss_ne7 hg j
    | 8, _ => ss_ne8 hg j
    | 9, _ => ss_ne9 hg j
    | 10, _ => ss_ne10 hg j
    | 11, _ => ss_ne11 hg j
theorem ss_rf {s : State} {args : Array Value} (hts : ∀ w ∈ lw_tbl, w.before args s = true) : ∀ i : Nat, i < 12 → (Cond.stringRef "ThreeEmpties$Tape" (113 + 2 * i) (gWords.getD i "")).before args s = true := by
  intro i hi
  exact match i, hi with
    | 0, _ => (hts _ (List.mem_append_right _ (List.mem_of_getElem? (i := 253) (by decide +kernel))))
    | 1, _ => (hts _ (List.mem_append_right _ (List.mem_of_getElem? (i := 254) (by decide +kernel))))
    | 2, _ => (hts _ (List.mem_append_right _ (List.mem_of_getElem? (i := 255) (by decide +kernel))))
    | 3, _ => (hts _ (List.mem_append_right _ (List.mem_of_getElem? (i := 256) (by decide +kernel))))
    | 4, _ => (hts _ (List.mem_append_right _ (List.mem_of_getElem? (i := 257) (by decide +kernel))))
    | 5, _ => (hts _ (List.mem_append_right _ (List.mem_of_getElem? (i := 258) (by decide +kernel))))
    | 6, _ => (hts _ (List.mem_append_right _ (List.mem_of_getElem? (i := 259) (by decide +kernel))))
    | 7, _ => (hts _ (List.mem_append_right _ (List.mem_of_getElem? (i := 260) (by decide +kernel))))
    | 8, _ => (hts _ (List.mem_append_right _ (List.mem_of_getElem? (i := 261) (by decide +kernel))))
    | 9, _ => (hts _ (List.mem_append_right _ (List.mem_of_getElem? (i := 262) (by decide +kernel))))
    | 10, _ => (hts _ (List.mem_append_right _ (List.mem_of_getElem? (i := 263) (by decide +kernel))))
    | 11, _ => (hts _ (List.mem_append_right _ (List.mem_of_getElem? (i := 264) (by decide +kernel))))
theorem ss_t0 {s : State} {args : Array Value} {A : Nat → Prop} (hts : ∀ w ∈ lw_tbl, w.before args s = true) (hg : (Jvm.Cond.and given_1 narrow_1).before args s = true) (hA : ∀ a : Nat, a < s.heap.size → ¬ A a) : ∃ t : Nat, va_Z "ThreeEmpties$Rates" "KIND_ABOVE" "[I" (.ref t) A s s.heap ∧ va_T .int t 6 (fun j => .int (gS0 j)) A s s.heap := by
  have hs := flat_of_before _ hg
  obtain ⟨t, h1, h2⟩ := va_Tof (args := args) (tm := .static "ThreeEmpties$Rates" "KIND_ABOVE" "[I") (ty := .int) (N := 6) (f := fun j => .int (gS0 j)) (A := A) (by decide) (hs _ (List.mem_of_getElem? (i := 25) (by decide +kernel))) (va_eqt (z := Int32.ofNat 6) (hs _ (List.mem_of_getElem? (i := 26) (by decide +kernel)))) (fun j hj => by
    have hj : j < 6 := hj
    exact va_eqt (z := gS0 j) (match j, hj with
    | 0, _ => (hs _ (List.mem_of_getElem? (i := 27) (by decide +kernel)))
    | 1, _ => (hs _ (List.mem_of_getElem? (i := 28) (by decide +kernel)))
    | 2, _ => (hs _ (List.mem_of_getElem? (i := 29) (by decide +kernel)))
    | 3, _ => (hs _ (List.mem_of_getElem? (i := 30) (by decide +kernel)))
    | 4, _ => (hs _ (List.mem_of_getElem? (i := 31) (by decide +kernel)))
    | 5, _ => (hs _ (List.mem_of_getElem? (i := 32) (by decide +kernel))))) hA
  exact ⟨t, va_Zof (hts _ (List.mem_append_right _ (List.mem_of_getElem? (i := 649) (by decide +kernel)))) (hts _ (List.mem_append_right _ (List.mem_of_getElem? (i := 2) (by decide +kernel)))) h1 hA, h2⟩
theorem ss_t1 {s : State} {args : Array Value} {A : Nat → Prop} (hts : ∀ w ∈ lw_tbl, w.before args s = true) (hg : (Jvm.Cond.and given_1 narrow_1).before args s = true) (hA : ∀ a : Nat, a < s.heap.size → ¬ A a) : ∃ t : Nat, va_Z "ThreeEmpties" "BOUNDS" "[I" (.ref t) A s s.heap ∧ va_T .int t 3 (fun j => .int (gS1 j)) A s s.heap := by
  have hs := flat_of_before _ hg
  obtain ⟨t, h1, h2⟩ := va_Tof (args := args) (tm := .static "ThreeEmpties" "BOUNDS" "[I") (ty := .int) (N := 3) (f := fun j => .int (gS1 j)) (A := A) (by decide) (hs _ (List.mem_of_getElem? (i := 19) (by decide +kernel))) (va_eqt (z := Int32.ofNat 3) (hs _ (List.mem_of_getElem? (i := 20) (by decide +kernel)))) (fun j hj => by
    have hj : j < 3 := hj
    exact va_eqt (z := gS1 j) (match j, hj with
    | 0, _ => (hs _ (List.mem_of_getElem? (i := 21) (by decide +kernel)))
    | 1, _ => (hs _ (List.mem_of_getElem? (i := 22) (by decide +kernel)))
    | 2, _ => (hs _ (List.mem_of_getElem? (i := 23) (by decide +kernel))))) hA
  exact ⟨t, va_Zof (hts _ (List.mem_append_right _ (List.mem_of_getElem? (i := 373) (by decide +kernel)))) (hts _ (List.mem_append_right _ (List.mem_of_getElem? (i := 1) (by decide +kernel)))) h1 hA, h2⟩
theorem ss_t2 {s : State} {args : Array Value} {A : Nat → Prop} (hts : ∀ w ∈ lw_tbl, w.before args s = true) (hg : (Jvm.Cond.and given_1 narrow_1).before args s = true) (hA : ∀ a : Nat, a < s.heap.size → ¬ A a) : ∃ t : Nat, va_Z "ThreeEmpties$Tape" "NAMED_PLACES" "[I" (.ref t) A s s.heap ∧ va_T .int t 6 (fun j => .int (gS2 j)) A s s.heap := by
  have hs := flat_of_before _ hg
  obtain ⟨t, h1, h2⟩ := va_Tof (args := args) (tm := .static "ThreeEmpties$Tape" "NAMED_PLACES" "[I") (ty := .int) (N := 6) (f := fun j => .int (gS2 j)) (A := A) (by decide) (hs _ (List.mem_of_getElem? (i := 10) (by decide +kernel))) (va_eqt (z := Int32.ofNat 6) (hs _ (List.mem_of_getElem? (i := 11) (by decide +kernel)))) (fun j hj => by
    have hj : j < 6 := hj
    exact va_eqt (z := gS2 j) (match j, hj with
    | 0, _ => (hs _ (List.mem_of_getElem? (i := 12) (by decide +kernel)))
    | 1, _ => (hs _ (List.mem_of_getElem? (i := 13) (by decide +kernel)))
    | 2, _ => (hs _ (List.mem_of_getElem? (i := 14) (by decide +kernel)))
    | 3, _ => (hs _ (List.mem_of_getElem? (i := 15) (by decide +kernel)))
    | 4, _ => (hs _ (List.mem_of_getElem? (i := 16) (by decide +kernel)))
    | 5, _ => (hs _ (List.mem_of_getElem? (i := 17) (by decide +kernel))))) hA
  exact ⟨t, va_Zof (hts _ (List.mem_append_right _ (List.mem_of_getElem? (i := 357) (by decide +kernel)))) (hts _ (List.mem_append_right _ (List.mem_of_getElem? (i := 3) (by decide +kernel)))) h1 hA, h2⟩
theorem ss_gn {s : State} {args : Array Value} (hts : ∀ w ∈ lw_tbl, w.before args s = true) : gNs s := fun w hw => by
  have h1 := (List.mem_filter.mp hw).2
  have h2 := hts w (List.mem_filter.mp hw).1
  cases w <;> first | exact va_tabs rfl rfl h2 | (simp [gisN] at h1)
theorem ss_zn {s : State} {args : Array Value} (hts : ∀ w ∈ lw_tbl, w.before args s = true) : Zn s := ⟨ss_gn hts, va_AO.of (hts _ (List.mem_append_right _ (List.mem_of_getElem? (i := 82) (by decide +kernel)))), va_AOA.of (hts _ (List.mem_append_right _ (List.mem_of_getElem? (i := 23) (by decide +kernel))))⟩
theorem ZC_start {s : State} {args : Array Value} {A : Nat → Prop} (hts : ∀ w ∈ lw_tbl, w.before args s = true) (hg : (Jvm.Cond.and given_1 narrow_1).before args s = true) (hA : ∀ a : Nat, a < s.heap.size → ¬ A a) : ∃ rS : Nat → Nat, ∀ r : Nat → Nat, (∀ i, 50 ≤ i → r i = rS i) → ZC r A s s.heap := by
  have hs := flat_of_before _ hg
  obtain ⟨t0, z0, y0⟩ := ss_t0 hts hg hA
  obtain ⟨t1, z1, y1⟩ := ss_t1 hts hg hA
  obtain ⟨t2, z2, y2⟩ := ss_t2 hts hg hA
  obtain ⟨adK, adV, hS, hK⟩ := vk_Sof (N := 12) (tm := fun i => Jvm.Term.string "ThreeEmpties$Tape" (113 + 2 * i)) (len := gWlen) (byt := gWbyt) (A := A) (by decide) (ss_ex hg) (ss_co hg) (ss_ar hg) (ss_le hg) (ss_el hg) (ss_ne hg) hA
  refine ⟨fun i => if i = 120 then t0 else if i = 121 then t1 else if i = 122 then t2 else if i < 112 then adK (i - 100) else adV (i - 130), fun r hr => ?_⟩
  have e0 : r 120 = t0 := hr 120 (by decide)
  have e1 : r 121 = t1 := hr 121 (by decide)
  have e2 : r 122 = t2 := hr 122 (by decide)
  have eK : ∀ i, i < 12 → r (100 + i) = adK i := fun i hi => by
    rw [hr _ (by omega)]
    dsimp only
    rw [if_neg (by omega), if_neg (by omega), if_neg (by omega), if_pos (by omega), Nat.add_sub_cancel_left]
  have eV : ∀ i, i < 12 → r (130 + i) = adV i := fun i hi => by
    rw [hr _ (by omega)]
    dsimp only
    rw [if_neg (by omega), if_neg (by omega), if_neg (by omega), if_neg (by omega), Nat.add_sub_cancel_left]
  refine ⟨⟨⟨?_, ?_⟩, ⟨?_, ?_⟩, ?_, ?_⟩, ?_, ⟨fun i hi => ?_, fun i j hi hj h => ?_⟩, fun i hi => ?_, ?_, ss_gn hts⟩
  · rw [e0]; exact z0
  · rw [e0]; exact y0
  · rw [e1]; exact z1
  · rw [e1]; exact y1
  · rw [e2]; exact z2
  · rw [e2]; exact y2
  · exact va_Zof (hts _ (List.mem_append_right _ (List.mem_of_getElem? (i := 278) (by decide +kernel)))) (hts _ (List.mem_append_right _ (List.mem_of_getElem? (i := 8) (by decide +kernel)))) (va_eqi (hs _ (List.mem_of_getElem? (i := 4) (by decide +kernel)))) hA
  · dsimp only; rw [eK i hi, eV i hi]; exact hS.1 i hi
  · dsimp only at h; rw [eK i hi, eK j hj] at h; exact hS.2 i j hi hj h
  · rw [eK i hi]; exact vk_R.of (ss_rf hts i hi) (hK i hi)
  · exact va_Zqof (hts _ (List.mem_append_right _ (List.mem_of_getElem? (i := 294) (by decide +kernel)))) (hts _ (List.mem_append_right _ (List.mem_of_getElem? (i := 10) (by decide +kernel)))) (hs _ (List.mem_of_getElem? (i := 5) (by decide +kernel))) hA
