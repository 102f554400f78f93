/-! ===== LAYER 1: contracts, walked (printed by wip/whole/gen.py) ===== -/
abbrev rmX4_greatestNeedOfWords : Room := { frames := 4, cells := 0, slots := 0, locals := 85 }
theorem eX4_greatestNeedOfWords : yX4_greatestNeedOfWords.cls = RX4 ∧ yX4_greatestNeedOfWords.cls ≠ "java/lang/invoke/MethodHandle" ∧ yX4_greatestNeedOfWords.cls ≠ "java/lang/invoke/VarHandle" ∧ (parseMethodDescriptor yX4_greatestNeedOfWords.desc).map (fun d => d.parameters.length) = some 0 := by decide +kernel
theorem iX4_greatestNeedOfWords_X4 : ∀ w ∈ wsX40, w ∈ wsX4_greatestNeedOfWords := fun _ h => List.mem_cons_of_mem _ (List.mem_append_left _ (List.mem_append_left _ (List.mem_append_left _ (List.mem_append_right _ (h)))))
theorem mX4_greatestNeedOfWords_1 : Cond.fieldLink RX4 21 "PracticeSheets$State" "words" "LPracticeSheets$WordList;" ∈ wsX4_greatestNeedOfWords := List.mem_of_getElem? (i := 1) rfl
theorem iX4_greatestNeedOfWords_X7 : ∀ w ∈ wsX70, w ∈ wsX4_greatestNeedOfWords := fun _ h => List.mem_cons_of_mem _ (List.mem_append_left _ (List.mem_append_left _ (List.mem_append_right _ (h))))
theorem mX4_greatestNeedOfWords_2 : Cond.fieldLink RX4 12 "PracticeSheets$State" "practice" "LPracticeSheets$Practice;" ∈ wsX4_greatestNeedOfWords := List.mem_of_getElem? (i := 2) rfl
theorem mX4_greatestNeedOfWords_3 : Cond.methodLink RX4 65 Lib.Math.max.name ∈ wsX4_greatestNeedOfWords := List.mem_of_getElem? (i := 3) rfl
theorem mX4_greatestNeedOfWords_4 : Cond.static Lib.Math.max.name ∈ wsX4_greatestNeedOfWords := List.mem_of_getElem? (i := 4) rfl
theorem mX4_greatestNeedOfWords_5 : Cond.initialized "java/lang/Math" ∈ wsX4_greatestNeedOfWords := List.mem_of_getElem? (i := 5) rfl
theorem mX4_greatestNeedOfWords_6 : Cond.code Lib.Math.max.name Lib.Math.max.code 2 (some .int) ∈ wsX4_greatestNeedOfWords := List.mem_of_getElem? (i := 6) rfl
set_option maxHeartbeats 4000000 in
set_option maxRecDepth 100000 in
theorem qX4_greatestNeedOfWords (l : Launch) (D : va_G) (E : Nat → ClassId) (ad : Nat → Nat → Nat) (L : List (Nat × Nat)) (A : Nat → Prop) (hF : gF E ad L A) (hLx : gLx L) (M0 : gW) (k0 : Nat) (hk0 : k0 < gN 1) (K : Int32 → gW → Prop) (hw : wX4_greatestNeedOfWords M0 k0 K) : Met l yX4_greatestNeedOfWords wsX4_greatestNeedOfWords rmX4_greatestNeedOfWords (va_Pc [.ref (ad 1 k0)] (gPre D E ad L M0)) (gQi D E ad L A K) 0 0 A := by
  refine Met.ofW (cc := cX4_greatestNeedOfWords) (maxL := 3) (ret := (some .int)) (by decide) rfl ?_
  intro p e s m args below meth c s₁ B hml hv
  obtain ⟨rfl, hP, hK, hN⟩ := hv
  have hx := B.exec
  have hb := B.bytes
  have hr := B.returns
  have hts := atoms_spec (ws := wsX4_greatestNeedOfWords) B.pre
  have hown : s.vm.findClass RX4 = some m.cls := findClass_of_methodNamed B.named
  have hlocks := B.notSynchronized
  have S : CallFix p m c cX4_greatestNeedOfWords 3 s ([.ref (ad 1 k0)] : List Value).toArray wsX4_greatestNeedOfWords RX4 := ⟨hx, hb, hml, hown, hts⟩
  have hS : va_S A s.heap s.heap [] := va_S.rf
  have hl := lv_entry ([.ref (ad 1 k0)]) (n := 3) (Nat.le_of_ble_eq_true rfl)
  rw [lg_entry_eq]
  generalize (lg_sl ([.ref (ad 1 k0)]) ++ List.replicate (3 - (lg_sl ([.ref (ad 1 k0)])).length) Slot.unset).toArray = ls at hl ⊢
  have hl : lv_has ls 3 [(0, .ref (ad 1 k0))] := hl
  refine lv_iconst (v := (0 : Int32)) hx hb dX4_greatestNeedOfWords_0 (by decide) ?_
  refine lv_istore_n (lv' := [(1, .int (0 : Int32)), (0, .ref (ad 1 k0))]) hx hb dX4_greatestNeedOfWords_1 rfl hl (by decide) rfl (fun ls hl => ?_)
  refine lv_iconst (v := (0 : Int32)) hx hb dX4_greatestNeedOfWords_2 (by decide) ?_
  refine lv_istore_n (lv' := [(2, .int (0 : Int32)), (1, .int (0 : Int32)), (0, .ref (ad 1 k0))]) hx hb dX4_greatestNeedOfWords_3 rfl hl (by decide) rfl (fun ls hl => ?_)
  obtain ⟨n12, hw⟩ := hw
  have hxX4_greatestNeedOfWords_L4_0 : ∀ (M9 : gW) (x1_10 : Int32) (x2_11 : Int32) (H : Heap) (locs : List Loc) (ls : Array Slot), (K x1_10 M9) → va_P D vwCl (gL E ad L M9) H → va_S A s.heap H locs → lv_has ls 3 [(0, .ref (ad 1 k0)), (1, .int x1_10), (2, .int x2_11)] → W p l e (headSpec wsX4_greatestNeedOfWords rmX4_greatestNeedOfWords).room s m (([.ref (ad 1 k0)] : List Value).toArray) below meth c H locs 0 0 (MQ below (gQi D E ad L A K) ([.ref (ad 1 k0)] : List Value).toArray s 0 0 A) (F0 m 42 ls []) := by
    intro M9 x1_10 x2_11 H locs ls hw hP hS hl
    refine lv_iload_n hx hb dX4_greatestNeedOfWords_42 rfl (lv_at hl 1 rfl) ?_
    exact g_iret hx hb hr hlocks hw hP hS dX4_greatestNeedOfWords_43
  have hlX4_greatestNeedOfWords_L4 : ∀ (n1 : Nat) (M2 : gW) (x1_3 : Int32) (x2_4 : Int32) (H : Heap) (locs : List Loc) (ls : Array Slot), wX4_greatestNeedOfWords_L4 k0 (fun M9 x1_10 x2_11 => (K x1_10 M9)) n1 M2 x1_3 x2_4 → va_P D vwCl (gL E ad L M2) H → va_S A s.heap H locs → lv_has ls 3 [(0, .ref (ad 1 k0)), (1, .int x1_3), (2, .int x2_4)] → W p l e (headSpec wsX4_greatestNeedOfWords rmX4_greatestNeedOfWords).room s m (([.ref (ad 1 k0)] : List Value).toArray) below meth c H locs 0 0 (MQ below (gQi D E ad L A K) ([.ref (ad 1 k0)] : List Value).toArray s 0 0 A) (F0 m 4 ls []) := by
    intro n1
    induction n1 with
    | zero => intro M2 x1_3 x2_4 H locs ls hw; exact False.elim hw
    | succ n1 ihn1 =>
      intro M2 x1_3 x2_4 H locs ls hw hP hS hl
      refine lv_iload_n hx hb dX4_greatestNeedOfWords_4 rfl (lv_at hl 2 rfl) ?_
      refine lv_aload_n hx hb dX4_greatestNeedOfWords_5 rfl (lv_at hl 0 rfl) ?_
      refine g_get (v := .ref (ad 5 k0)) hx hb hts hown hK hP (hLx.h (f := 1) hk0) (gC1 _ _ _ _) gcl4 iX4_greatestNeedOfWords_X4 1 (by decide) mX4_greatestNeedOfWords_1 rfl rfl dX4_greatestNeedOfWords_6 ?_
      refine g_getN (v := .int (M2 5 k0 1)) hx hb hts hown hK hN hP (hLx.h (f := 5) hk0) (gC5 _ _ _ _) gcl7 iX4_greatestNeedOfWords_X7 1 (by decide) 12 rfl rfl rfl dX4_greatestNeedOfWords_9 ?_
      refine lv_icmp_ge (tgt := 42) hx hb dX4_greatestNeedOfWords_12 (by decide) (fun c5 => ?_) (fun c5 => ?_)
      · have hw := hw.1 c5
        exact hxX4_greatestNeedOfWords_L4_0 _ _ _ _ _ _ hw hP hS (lv_sub hl [0, 1, 2] rfl)
      · have hw := hw.2 c5
        refine lv_iload_n hx hb dX4_greatestNeedOfWords_15 rfl (lv_at hl 1 rfl) ?_
        refine lv_aload_n hx hb dX4_greatestNeedOfWords_16 rfl (lv_at hl 0 rfl) ?_
        refine g_get (v := .ref (ad 2 k0)) hx hb hts hown hK hP (hLx.h (f := 1) hk0) (gC1 _ _ _ _) gcl4 iX4_greatestNeedOfWords_X4 0 (by decide) mX4_greatestNeedOfWords_2 rfl rfl dX4_greatestNeedOfWords_17 ?_
        refine lv_aload_n hx hb dX4_greatestNeedOfWords_20 rfl (lv_at hl 0 rfl) ?_
        refine g_get (v := .ref (ad 5 k0)) hx hb hts hown hK hP (hLx.h (f := 1) hk0) (gC1 _ _ _ _) gcl4 iX4_greatestNeedOfWords_X4 1 (by decide) mX4_greatestNeedOfWords_1 rfl rfl dX4_greatestNeedOfWords_21 ?_
        refine g_getN (v := .ref (ad 6 k0)) hx hb hts hown hK hN hP (hLx.h (f := 5) hk0) (gC5 _ _ _ _) gcl7 iX4_greatestNeedOfWords_X7 0 (by decide) 10 rfl rfl rfl dX4_greatestNeedOfWords_24 ?_
        refine lv_iload_n hx hb dX4_greatestNeedOfWords_27 rfl (lv_at hl 2 rfl) ?_
        have hb6 := hw.1
        have hw := hw.2
        refine g_aldw hx hb hK hP (hLx.h (f := 6) hk0) hb6 dX4_greatestNeedOfWords_28 ?_
        refine g_Vi (As := [.ref (ad 7 (20 * k0 + x2_4.toNatClampNeg))]) (rest := [.int x1_3]) S hK hN hP hS (qX1_greatestNeedOf l D E ad L A hF hLx M2 k0 (20 * k0 + x2_4.toNatClampNeg) hk0 (g_word hk0 hb6) _ hw) (cwV 1 hts gX4_greatestNeedOfWords_X1_greatestNeedOf rfl rfl rfl eX1_greatestNeedOf ⟨Nat.le_of_ble_eq_true rfl, Nat.le_of_ble_eq_true rfl⟩) (hLx.h (f := 2) hk0) (gC2 _ _ _ _) gcl1 rfl rfl rfl hl.1 (Nat.le_of_ble_eq_true rfl) ⟨Nat.zero_le _, Nat.zero_le _⟩ dX4_greatestNeedOfWords_29 (fun r8 M7 H locs hw hP hS => ?_)
        refine va_mmax hx hb (by rw [hml]; exact hl.1.symm) hown (hts _ mX4_greatestNeedOfWords_3) (hts _ mX4_greatestNeedOfWords_4) (hts _ mX4_greatestNeedOfWords_5) (hts _ mX4_greatestNeedOfWords_6) (Nat.le_of_ble_eq_true rfl) (Nat.le_of_ble_eq_true rfl) (Nat.zero_le _) (Nat.zero_le _) dX4_greatestNeedOfWords_32 ?_
        refine lv_istore_n (lv' := [(1, .int (if x1_3 < r8 then r8 else x1_3)), (0, .ref (ad 1 k0)), (2, .int x2_4)]) hx hb dX4_greatestNeedOfWords_35 rfl hl (by decide) rfl (fun ls hl => ?_)
        refine lv_iinc (v := (x2_4 + (1 : Int32))) (lv' := [(2, .int (x2_4 + (1 : Int32))), (1, .int (if x1_3 < r8 then r8 else x1_3)), (0, .ref (ad 1 k0))]) hx hb dX4_greatestNeedOfWords_36 hl (k := 2) rfl rfl (by decide) rfl (fun ls hl => ?_)
        refine lv_goto (tgt := 4) hx hb dX4_greatestNeedOfWords_39 (by decide) ?_
        exact ihn1 _ _ _ _ _ _ hw hP hS (lv_sub hl [2, 1, 0] rfl)
  exact hlX4_greatestNeedOfWords_L4 n12 _ _ _ _ _ _ hw hP hS (lv_sub hl [2, 1, 0] rfl)
abbrev rmX5_append : Room := { frames := 0, cells := 0, slots := 0, locals := 0 }
theorem eX5_append : yX5_append.cls = RX5 ∧ yX5_append.cls ≠ "java/lang/invoke/MethodHandle" ∧ yX5_append.cls ≠ "java/lang/invoke/VarHandle" ∧ (parseMethodDescriptor yX5_append.desc).map (fun d => d.parameters.length) = some 1 := by decide +kernel
theorem iX5_append_X5 : ∀ w ∈ wsX50, w ∈ wsX5_append := fun _ h => List.mem_cons_of_mem _ (List.mem_append_right _ (h))
theorem mX5_append_1 : Cond.fieldLink RX5 22 "PracticeSheets$Text" "length" "I" ∈ wsX5_append := List.mem_of_getElem? (i := 1) rfl
theorem mX5_append_2 : Cond.fieldLink RX5 9 "PracticeSheets$Text" "signs" "[C" ∈ wsX5_append := List.mem_of_getElem? (i := 2) rfl
set_option maxHeartbeats 4000000 in
set_option maxRecDepth 100000 in
theorem qX5_append (l : Launch) (D : va_G) (E : Nat → ClassId) (ad : Nat → Nat → Nat) (L : List (Nat × Nat)) (A : Nat → Prop) (hF : gF E ad L A) (hLx : gLx L) (M0 : gW) (a1 : Int32)  (K : Int32 → gW → Prop) (hw : wX5_append M0 a1 K) : Met l yX5_append wsX5_append rmX5_append (va_Pc [.ref (ad 12 0), .int a1] (gPre D E ad L M0)) (gQi D E ad L A K) 0 0 A := by
  refine Met.ofW (cc := cX5_append) (maxL := 2) (ret := (some .boolean)) (by decide) rfl ?_
  intro p e s m args below meth c s₁ B hml hv
  obtain ⟨rfl, hP, hK, hN⟩ := hv
  have hx := B.exec
  have hb := B.bytes
  have hr := B.returns
  have hts := atoms_spec (ws := wsX5_append) B.pre
  have hown : s.vm.findClass RX5 = some m.cls := findClass_of_methodNamed B.named
  have hlocks := B.notSynchronized
  have S : CallFix p m c cX5_append 2 s ([.ref (ad 12 0), .int a1] : List Value).toArray wsX5_append RX5 := ⟨hx, hb, hml, hown, hts⟩
  have hS : va_S A s.heap s.heap [] := va_S.rf
  have hl := lv_entry ([.ref (ad 12 0), .int a1]) (n := 2) (Nat.le_of_ble_eq_true rfl)
  rw [lg_entry_eq]
  generalize (lg_sl ([.ref (ad 12 0), .int a1]) ++ List.replicate (2 - (lg_sl ([.ref (ad 12 0), .int a1])).length) Slot.unset).toArray = ls at hl ⊢
  have hl : lv_has ls 2 [(0, .ref (ad 12 0)), (1, .int a1)] := hl
  refine lv_aload_n hx hb dX5_append_0 rfl (lv_at hl 0 rfl) ?_
  refine g_get (v := .int (M0 12 0 2)) hx hb hts hown hK hP (hLx.h (f := 12) (by decide)) (gC12 _ _ _ _) gcl5 iX5_append_X5 2 (by decide) mX5_append_1 rfl rfl dX5_append_1 ?_
  refine lv_bipush (v := (60 : Int32)) hx hb dX5_append_4 (by decide) ?_
  refine lv_icmp_lt (tgt := 11) hx hb dX5_append_6 (by decide) (fun c1 => ?_) (fun c1 => ?_)
  · have hw := hw.1 c1
    refine lv_aload_n hx hb dX5_append_11 rfl (lv_at hl 0 rfl) ?_
    refine g_get (v := .ref (ad 13 0)) hx hb hts hown hK hP (hLx.h (f := 12) (by decide)) (gC12 _ _ _ _) gcl5 iX5_append_X5 0 (by decide) mX5_append_2 rfl rfl dX5_append_12 ?_
    refine lv_aload_n hx hb dX5_append_15 rfl (lv_at hl 0 rfl) ?_
    refine g_get (v := .int (M0 12 0 2)) hx hb hts hown hK hP (hLx.h (f := 12) (by decide)) (gC12 _ _ _ _) gcl5 iX5_append_X5 2 (by decide) mX5_append_1 rfl rfl dX5_append_16 ?_
    refine lv_iload_n hx hb dX5_append_19 rfl (lv_at hl 1 rfl) ?_
    have hb2 := hw.1
    have hw := hw.2
    have hb3 := hw.1
    have hw := hw.2
    refine g_cast hx hb hF hK hP hS (hLx.h (f := 13) (by decide)) (fun r => gC13 _ _ _ r) hb2 hb3 dX5_append_20 (fun M4 e5 H locs hP hS => ?_)
    have hw := hw M4 e5
    refine lv_aload_n hx hb dX5_append_21 rfl (lv_at hl 0 rfl) ?_
    refine lv_dup hx hb dX5_append_22 rfl ?_
    refine g_get (v := .int (M4 12 0 2)) hx hb hts hown hK hP (hLx.h (f := 12) (by decide)) (gC12 _ _ _ _) gcl5 iX5_append_X5 2 (by decide) mX5_append_1 rfl rfl dX5_append_23 ?_
    refine lv_iconst (v := (1 : Int32)) hx hb dX5_append_26 (by decide) ?_
    refine lv_iadd hx hb dX5_append_27 ?_
    refine g_put hx hb hF hts hown hK hP hS (hLx.h (f := 12) (by decide)) (gC12 _ _ _ _) gcl5 iX5_append_X5 tyX5 tyX5_ok nmX5 2 (by decide) mX5_append_1 rfl rfl rfl rfl (Nat.lt_of_lt_of_eq (by decide : 2 < 3) rfl) rfl dX5_append_28 (fun M6 e7 H locs hP hS => ?_)
    have hw := hw M6 e7
    refine lv_iconst (v := (1 : Int32)) hx hb dX5_append_31 (by decide) ?_
    exact g_zret hx hb hr hlocks (by decide) hw hP hS dX5_append_32
  · have hw := hw.2 c1
    refine lv_iconst (v := (0 : Int32)) hx hb dX5_append_9 (by decide) ?_
    exact g_zret hx hb hr hlocks (by decide) hw hP hS dX5_append_10
abbrev rmX8_isLetter : Room := { frames := 0, cells := 0, slots := 0, locals := 0 }
theorem eX8_isLetter : yX8_isLetter.cls = RX8 ∧ yX8_isLetter.cls ≠ "java/lang/invoke/MethodHandle" ∧ yX8_isLetter.cls ≠ "java/lang/invoke/VarHandle" ∧ (parseMethodDescriptor yX8_isLetter.desc).map (fun d => d.parameters.length) = some 1 := by decide +kernel
set_option maxHeartbeats 4000000 in
set_option maxRecDepth 100000 in
theorem qX8_isLetter (l : Launch) (D : va_G) (E : Nat → ClassId) (ad : Nat → Nat → Nat) (L : List (Nat × Nat)) (A : Nat → Prop) (hF : gF E ad L A) (hLx : gLx L) (M0 : gW) (a0 : Int32)  (K : Int32 → gW → Prop) (hw : wX8_isLetter M0 a0 K) : Met l yX8_isLetter wsX8_isLetter rmX8_isLetter (va_Pc [.int a0] (gPre D E ad L M0)) (gQi D E ad L A K) 0 0 A := by
  refine Met.ofW (cc := cX8_isLetter) (maxL := 1) (ret := (some .boolean)) (by decide) rfl ?_
  intro p e s m args below meth c s₁ B hml hv
  obtain ⟨rfl, hP, hK, hN⟩ := hv
  have hx := B.exec
  have hb := B.bytes
  have hr := B.returns
  have hts := atoms_spec (ws := wsX8_isLetter) B.pre
  have hown : s.vm.findClass RX8 = some m.cls := findClass_of_methodNamed B.named
  have hlocks := B.notSynchronized
  have S : CallFix p m c cX8_isLetter 1 s ([.int a0] : List Value).toArray wsX8_isLetter RX8 := ⟨hx, hb, hml, hown, hts⟩
  have hS : va_S A s.heap s.heap [] := va_S.rf
  have hl := lv_entry ([.int a0]) (n := 1) (Nat.le_of_ble_eq_true rfl)
  rw [lg_entry_eq]
  generalize (lg_sl ([.int a0]) ++ List.replicate (1 - (lg_sl ([.int a0])).length) Slot.unset).toArray = ls at hl ⊢
  have hl : lv_has ls 1 [(0, .int a0)] := hl
  refine lv_iload_n hx hb dX8_isLetter_0 rfl (lv_at hl 0 rfl) ?_
  refine lv_bipush (v := (97 : Int32)) hx hb dX8_isLetter_1 (by decide) ?_
  refine lv_icmp_lt (tgt := 16) hx hb dX8_isLetter_3 (by decide) (fun c1 => ?_) (fun c1 => ?_)
  · have hw := hw.1 c1
    refine lv_iconst (v := (0 : Int32)) hx hb dX8_isLetter_16 (by decide) ?_
    exact g_zret hx hb hr hlocks (by decide) hw hP hS dX8_isLetter_17
  · have hw := hw.2 c1
    refine lv_iload_n hx hb dX8_isLetter_6 rfl (lv_at hl 0 rfl) ?_
    refine lv_bipush (v := (122 : Int32)) hx hb dX8_isLetter_7 (by decide) ?_
    refine lv_icmp_gt (tgt := 16) hx hb dX8_isLetter_9 (by decide) (fun c2 => ?_) (fun c2 => ?_)
    · have hw := hw.1 c2
      refine lv_iconst (v := (0 : Int32)) hx hb dX8_isLetter_16 (by decide) ?_
      exact g_zret hx hb hr hlocks (by decide) hw hP hS dX8_isLetter_17
    · have hw := hw.2 c2
      refine lv_iconst (v := (1 : Int32)) hx hb dX8_isLetter_12 (by decide) ?_
      refine lv_goto (tgt := 17) hx hb dX8_isLetter_13 (by decide) ?_
      exact g_zret hx hb hr hlocks (by decide) hw hP hS dX8_isLetter_17
abbrev rmX5_mayBeWritten : Room := { frames := 1, cells := 0, slots := 0, locals := 20 }
theorem eX5_mayBeWritten : yX5_mayBeWritten.cls = RX5 ∧ yX5_mayBeWritten.cls ≠ "java/lang/invoke/MethodHandle" ∧ yX5_mayBeWritten.cls ≠ "java/lang/invoke/VarHandle" ∧ (parseMethodDescriptor yX5_mayBeWritten.desc).map (fun d => d.parameters.length) = some 3 := by decide +kernel
theorem mX5_mayBeWritten_2 : Cond.initialized RX8 ∈ wsX5_mayBeWritten := List.mem_of_getElem? (i := 2) rfl
theorem mX5_mayBeWritten_1 : Cond.static yX8_isLetter ∈ wsX5_mayBeWritten := List.mem_of_getElem? (i := 1) rfl
set_option maxHeartbeats 4000000 in
set_option maxRecDepth 100000 in
theorem qX5_mayBeWritten (l : Launch) (D : va_G) (E : Nat → ClassId) (ad : Nat → Nat → Nat) (L : List (Nat × Nat)) (A : Nat → Prop) (hF : gF E ad L A) (hLx : gLx L) (M0 : gW) (a0 : Int32) (a1 : Int32) (a2 : Int32)  (K : Int32 → gW → Prop) (hw : wX5_mayBeWritten M0 a0 a1 a2 K) : Met l yX5_mayBeWritten wsX5_mayBeWritten rmX5_mayBeWritten (va_Pc [.int a0, .int a1, .int a2] (gPre D E ad L M0)) (gQi D E ad L A K) 0 0 A := by
  refine Met.ofW (cc := cX5_mayBeWritten) (maxL := 3) (ret := (some .boolean)) (by decide) rfl ?_
  intro p e s m args below meth c s₁ B hml hv
  obtain ⟨rfl, hP, hK, hN⟩ := hv
  have hx := B.exec
  have hb := B.bytes
  have hr := B.returns
  have hts := atoms_spec (ws := wsX5_mayBeWritten) B.pre
  have hown : s.vm.findClass RX5 = some m.cls := findClass_of_methodNamed B.named
  have hlocks := B.notSynchronized
  have S : CallFix p m c cX5_mayBeWritten 3 s ([.int a0, .int a1, .int a2] : List Value).toArray wsX5_mayBeWritten RX5 := ⟨hx, hb, hml, hown, hts⟩
  have hS : va_S A s.heap s.heap [] := va_S.rf
  have hl := lv_entry ([.int a0, .int a1, .int a2]) (n := 3) (Nat.le_of_ble_eq_true rfl)
  rw [lg_entry_eq]
  generalize (lg_sl ([.int a0, .int a1, .int a2]) ++ List.replicate (3 - (lg_sl ([.int a0, .int a1, .int a2])).length) Slot.unset).toArray = ls at hl ⊢
  have hl : lv_has ls 3 [(0, .int a0), (1, .int a1), (2, .int a2)] := hl
  refine lv_iload_n hx hb dX5_mayBeWritten_0 rfl (lv_at hl 0 rfl) ?_
  refine lv_bipush (v := (33 : Int32)) hx hb dX5_mayBeWritten_1 (by decide) ?_
  refine lv_icmp_ne (tgt := 11) hx hb dX5_mayBeWritten_3 (by decide) (fun c1 => ?_) (fun c1 => ?_)
  · have hw := hw.2 c1
    refine lv_iload_n hx hb dX5_mayBeWritten_11 rfl (lv_at hl 0 rfl) ?_
    refine lv_bipush (v := (45 : Int32)) hx hb dX5_mayBeWritten_12 (by decide) ?_
    refine lv_icmp_ne (tgt := 35) hx hb dX5_mayBeWritten_14 (by decide) (fun c2 => ?_) (fun c2 => ?_)
    · have hw := hw.2 c2
      refine lv_iload_n hx hb dX5_mayBeWritten_35 rfl (lv_at hl 0 rfl) ?_
      refine g_SNi (As := [.int a0]) (rest := []) S hK hN hP hS (qX8_isLetter l D E ad L A hF hLx M0 a0  _ hw) ⟨va_cnB 1 hts gX5_mayBeWritten_X8_isLetter_n30 rfl rfl rfl (hN.2 0 _ rfl) (hts _ mX5_mayBeWritten_2) eX8_isLetter.2 ⟨Nat.le_of_ble_eq_true rfl, Nat.le_of_ble_eq_true rfl⟩, hts _ mX5_mayBeWritten_1, trivial⟩ rfl rfl hl.1 (Nat.le_of_ble_eq_true rfl) ⟨Nat.zero_le _, Nat.zero_le _⟩ dX5_mayBeWritten_36 (fun r4 M3 H locs hw hP hS => ?_)
      refine lv_if_eq (tgt := 52) hx hb dX5_mayBeWritten_39 (by decide) (fun c5 => ?_) (fun c5 => ?_)
      · have hw := hw.1 c5
        refine lv_iconst (v := (0 : Int32)) hx hb dX5_mayBeWritten_52 (by decide) ?_
        exact g_zret hx hb hr hlocks (by decide) hw hP hS dX5_mayBeWritten_53
      · have hw := hw.2 c5
        refine lv_iload_n hx hb dX5_mayBeWritten_42 rfl (lv_at hl 2 rfl) ?_
        refine lv_bipush (v := (15 : Int32)) hx hb dX5_mayBeWritten_43 (by decide) ?_
        refine lv_icmp_ge (tgt := 52) hx hb dX5_mayBeWritten_45 (by decide) (fun c6 => ?_) (fun c6 => ?_)
        · have hw := hw.1 c6
          refine lv_iconst (v := (0 : Int32)) hx hb dX5_mayBeWritten_52 (by decide) ?_
          exact g_zret hx hb hr hlocks (by decide) hw hP hS dX5_mayBeWritten_53
        · have hw := hw.2 c6
          refine lv_iconst (v := (1 : Int32)) hx hb dX5_mayBeWritten_48 (by decide) ?_
          refine lv_goto (tgt := 53) hx hb dX5_mayBeWritten_49 (by decide) ?_
          exact g_zret hx hb hr hlocks (by decide) hw hP hS dX5_mayBeWritten_53
    · have hw := hw.1 c2
      refine lv_iload_n hx hb dX5_mayBeWritten_17 rfl (lv_at hl 1 rfl) ?_
      refine lv_bipush (v := (45 : Int32)) hx hb dX5_mayBeWritten_18 (by decide) ?_
      refine lv_icmp_eq (tgt := 33) hx hb dX5_mayBeWritten_20 (by decide) (fun c7 => ?_) (fun c7 => ?_)
      · have hw := hw.1 c7
        refine lv_iconst (v := (0 : Int32)) hx hb dX5_mayBeWritten_33 (by decide) ?_
        exact g_zret hx hb hr hlocks (by decide) hw hP hS dX5_mayBeWritten_34
      · have hw := hw.2 c7
        refine lv_iload_n hx hb dX5_mayBeWritten_23 rfl (lv_at hl 2 rfl) ?_
        refine lv_bipush (v := (15 : Int32)) hx hb dX5_mayBeWritten_24 (by decide) ?_
        refine lv_icmp_ge (tgt := 33) hx hb dX5_mayBeWritten_26 (by decide) (fun c8 => ?_) (fun c8 => ?_)
        · have hw := hw.1 c8
          refine lv_iconst (v := (0 : Int32)) hx hb dX5_mayBeWritten_33 (by decide) ?_
          exact g_zret hx hb hr hlocks (by decide) hw hP hS dX5_mayBeWritten_34
        · have hw := hw.2 c8
          refine lv_iconst (v := (1 : Int32)) hx hb dX5_mayBeWritten_29 (by decide) ?_
          refine lv_goto (tgt := 34) hx hb dX5_mayBeWritten_30 (by decide) ?_
          exact g_zret hx hb hr hlocks (by decide) hw hP hS dX5_mayBeWritten_34
  · have hw := hw.1 c1
    refine lv_iload_n hx hb dX5_mayBeWritten_6 rfl (lv_at hl 1 rfl) ?_
    refine g_SNi (As := [.int a1]) (rest := []) S hK hN hP hS (qX8_isLetter l D E ad L A hF hLx M0 a1  _ hw) ⟨va_cnB 1 hts gX5_mayBeWritten_X8_isLetter_n30 rfl rfl rfl (hN.2 0 _ rfl) (hts _ mX5_mayBeWritten_2) eX8_isLetter.2 ⟨Nat.le_of_ble_eq_true rfl, Nat.le_of_ble_eq_true rfl⟩, hts _ mX5_mayBeWritten_1, trivial⟩ rfl rfl hl.1 (Nat.le_of_ble_eq_true rfl) ⟨Nat.zero_le _, Nat.zero_le _⟩ dX5_mayBeWritten_7 (fun r10 M9 H locs hw hP hS => ?_)
    have hb11 := hw.1
    have hw := hw.2
    exact g_zret hx hb hr hlocks hb11 hw hP hS dX5_mayBeWritten_10
abbrev rmX5_faultAsWritten : Room := { frames := 2, cells := 0, slots := 0, locals := 42 }
theorem eX5_faultAsWritten : yX5_faultAsWritten.cls = RX5 ∧ yX5_faultAsWritten.cls ≠ "java/lang/invoke/MethodHandle" ∧ yX5_faultAsWritten.cls ≠ "java/lang/invoke/VarHandle" ∧ (parseMethodDescriptor yX5_faultAsWritten.desc).map (fun d => d.parameters.length) = some 0 := by decide +kernel
theorem iX5_faultAsWritten_X5 : ∀ w ∈ wsX50, w ∈ wsX5_faultAsWritten := fun _ h => List.mem_cons_of_mem _ (List.mem_append_right _ (h))
theorem mX5_faultAsWritten_1 : Cond.fieldLink RX5 22 "PracticeSheets$Text" "length" "I" ∈ wsX5_faultAsWritten := List.mem_of_getElem? (i := 1) rfl
theorem mX5_faultAsWritten_2 : Cond.fieldLink RX5 9 "PracticeSheets$Text" "signs" "[C" ∈ wsX5_faultAsWritten := List.mem_of_getElem? (i := 2) rfl
theorem mX5_faultAsWritten_8 : Cond.initialized RX8 ∈ wsX5_faultAsWritten := List.mem_of_getElem? (i := 8) rfl
theorem mX5_faultAsWritten_7 : Cond.static yX8_isLetter ∈ wsX5_faultAsWritten := List.mem_of_getElem? (i := 7) rfl
set_option maxHeartbeats 4000000 in
set_option maxRecDepth 100000 in
theorem qX5_faultAsWritten (l : Launch) (D : va_G) (E : Nat → ClassId) (ad : Nat → Nat → Nat) (L : List (Nat × Nat)) (A : Nat → Prop) (hF : gF E ad L A) (hLx : gLx L) (M0 : gW)  (K : Int32 → gW → Prop) (hw : wX5_faultAsWritten M0 K) : Met l yX5_faultAsWritten wsX5_faultAsWritten rmX5_faultAsWritten (va_Pc [.ref (ad 12 0)] (gPre D E ad L M0)) (gQi D E ad L A K) 0 0 A := by
  refine Met.ofW (cc := cX5_faultAsWritten) (maxL := 5) (ret := (some .int)) (by decide) rfl ?_
  intro p e s m args below meth c s₁ B hml hv
  obtain ⟨rfl, hP, hK, hN⟩ := hv
  have hx := B.exec
  have hb := B.bytes
  have hr := B.returns
  have hts := atoms_spec (ws := wsX5_faultAsWritten) B.pre
  have hown : s.vm.findClass RX5 = some m.cls := findClass_of_methodNamed B.named
  have hlocks := B.notSynchronized
  have S : CallFix p m c cX5_faultAsWritten 5 s ([.ref (ad 12 0)] : List Value).toArray wsX5_faultAsWritten RX5 := ⟨hx, hb, hml, hown, hts⟩
  have hS : va_S A s.heap s.heap [] := va_S.rf
  have hl := lv_entry ([.ref (ad 12 0)]) (n := 5) (Nat.le_of_ble_eq_true rfl)
  rw [lg_entry_eq]
  generalize (lg_sl ([.ref (ad 12 0)]) ++ List.replicate (5 - (lg_sl ([.ref (ad 12 0)])).length) Slot.unset).toArray = ls at hl ⊢
  have hl : lv_has ls 5 [(0, .ref (ad 12 0))] := hl
  refine lv_bipush (v := (45 : Int32)) hx hb dX5_faultAsWritten_0 (by decide) ?_
  refine lv_istore_n (lv' := [(1, .int (45 : Int32)), (0, .ref (ad 12 0))]) hx hb dX5_faultAsWritten_2 rfl hl (by decide) rfl (fun ls hl => ?_)
  refine lv_iconst (v := (0 : Int32)) hx hb dX5_faultAsWritten_3 (by decide) ?_
  refine lv_istore_n (lv' := [(2, .int (0 : Int32)), (1, .int (45 : Int32)), (0, .ref (ad 12 0))]) hx hb dX5_faultAsWritten_4 rfl hl (by decide) rfl (fun ls hl => ?_)
  refine lv_iconst (v := (0 : Int32)) hx hb dX5_faultAsWritten_5 (by decide) ?_
  refine lv_istore_n (lv' := [(3, .int (0 : Int32)), (2, .int (0 : Int32)), (1, .int (45 : Int32)), (0, .ref (ad 12 0))]) hx hb dX5_faultAsWritten_6 rfl hl (by decide) rfl (fun ls hl => ?_)
  obtain ⟨n19, hw⟩ := hw
  have hxX5_faultAsWritten_L7_0 : ∀ (M14 : gW) (x1_15 : Int32) (x2_16 : Int32) (x3_17 : Int32) (H : Heap) (locs : List Loc) (ls : Array Slot), ((x1_15 = (45 : Int32) → (K (M14 12 0 2) M14)) ∧ (¬ (x1_15 = (45 : Int32)) → (K (-1 : Int32) M14))) → va_P D vwCl (gL E ad L M14) H → va_S A s.heap H locs → lv_has ls 5 [(0, .ref (ad 12 0)), (1, .int x1_15), (2, .int x2_16), (3, .int x3_17)] → W p l e (headSpec wsX5_faultAsWritten rmX5_faultAsWritten).room s m (([.ref (ad 12 0)] : List Value).toArray) below meth c H locs 0 0 (MQ below (gQi D E ad L A K) ([.ref (ad 12 0)] : List Value).toArray s 0 0 A) (F0 m 55 ls []) := by
    intro M14 x1_15 x2_16 x3_17 H locs ls hw hP hS hl
    refine lv_iload_n hx hb dX5_faultAsWritten_55 rfl (lv_at hl 1 rfl) ?_
    refine lv_bipush (v := (45 : Int32)) hx hb dX5_faultAsWritten_56 (by decide) ?_
    refine lv_icmp_ne (tgt := 68) hx hb dX5_faultAsWritten_58 (by decide) (fun c18 => ?_) (fun c18 => ?_)
    · have hw := hw.2 c18
      refine lv_iconst (v := (-1 : Int32)) hx hb dX5_faultAsWritten_68 (by decide) ?_
      exact g_iret hx hb hr hlocks hw hP hS dX5_faultAsWritten_69
    · have hw := hw.1 c18
      refine lv_aload_n hx hb dX5_faultAsWritten_61 rfl (lv_at hl 0 rfl) ?_
      refine g_get (v := .int (M14 12 0 2)) hx hb hts hown hK hP (hLx.h (f := 12) (by decide)) (gC12 _ _ _ _) gcl5 iX5_faultAsWritten_X5 2 (by decide) mX5_faultAsWritten_1 rfl rfl dX5_faultAsWritten_62 ?_
      refine lv_goto (tgt := 69) hx hb dX5_faultAsWritten_65 (by decide) ?_
      exact g_iret hx hb hr hlocks hw hP hS dX5_faultAsWritten_69
  have hlX5_faultAsWritten_L7 : ∀ (n1 : Nat) (M2 : gW) (x1_3 : Int32) (x2_4 : Int32) (x3_5 : Int32) (H : Heap) (locs : List Loc) (ls : Array Slot), wX5_faultAsWritten_L7 K (fun M14 x1_15 x2_16 x3_17 => ((x1_15 = (45 : Int32) → (K (M14 12 0 2) M14)) ∧ (¬ (x1_15 = (45 : Int32)) → (K (-1 : Int32) M14)))) n1 M2 x1_3 x2_4 x3_5 → va_P D vwCl (gL E ad L M2) H → va_S A s.heap H locs → lv_has ls 5 [(0, .ref (ad 12 0)), (1, .int x1_3), (2, .int x2_4), (3, .int x3_5)] → W p l e (headSpec wsX5_faultAsWritten rmX5_faultAsWritten).room s m (([.ref (ad 12 0)] : List Value).toArray) below meth c H locs 0 0 (MQ below (gQi D E ad L A K) ([.ref (ad 12 0)] : List Value).toArray s 0 0 A) (F0 m 7 ls []) := by
    intro n1
    induction n1 with
    | zero => intro M2 x1_3 x2_4 x3_5 H locs ls hw; exact False.elim hw
    | succ n1 ihn1 =>
      intro M2 x1_3 x2_4 x3_5 H locs ls hw hP hS hl
      refine lv_iload_n hx hb dX5_faultAsWritten_7 rfl (lv_at hl 3 rfl) ?_
      refine lv_aload_n hx hb dX5_faultAsWritten_8 rfl (lv_at hl 0 rfl) ?_
      refine g_get (v := .int (M2 12 0 2)) hx hb hts hown hK hP (hLx.h (f := 12) (by decide)) (gC12 _ _ _ _) gcl5 iX5_faultAsWritten_X5 2 (by decide) mX5_faultAsWritten_1 rfl rfl dX5_faultAsWritten_9 ?_
      refine lv_icmp_ge (tgt := 55) hx hb dX5_faultAsWritten_12 (by decide) (fun c6 => ?_) (fun c6 => ?_)
      · have hw := hw.1 c6
        exact hxX5_faultAsWritten_L7_0 _ _ _ _ _ _ _ hw hP hS (lv_sub hl [0, 1, 2, 3] rfl)
      · have hw := hw.2 c6
        refine lv_aload_n hx hb dX5_faultAsWritten_15 rfl (lv_at hl 0 rfl) ?_
        refine g_get (v := .ref (ad 13 0)) hx hb hts hown hK hP (hLx.h (f := 12) (by decide)) (gC12 _ _ _ _) gcl5 iX5_faultAsWritten_X5 0 (by decide) mX5_faultAsWritten_2 rfl rfl dX5_faultAsWritten_16 ?_
        refine lv_iload_n hx hb dX5_faultAsWritten_19 rfl (lv_at hl 3 rfl) ?_
        have hb7 := hw.1
        have hw := hw.2
        refine g_cald hx hb hK hP (hLx.h (f := 13) (by decide)) (gC13 _ _ _ _) hb7 dX5_faultAsWritten_20 ?_
        refine lv_istore (lv' := [(4, .int (M2 13 0 x3_5.toNatClampNeg)), (0, .ref (ad 12 0)), (1, .int x1_3), (2, .int x2_4), (3, .int x3_5)]) hx hb dX5_faultAsWritten_21 hl (by decide) rfl (fun ls hl => ?_)
        refine lv_iload hx hb dX5_faultAsWritten_23 (lv_at hl 0 rfl) ?_
        refine lv_iload_n hx hb dX5_faultAsWritten_25 rfl (lv_at hl 2 rfl) ?_
        refine lv_iload_n hx hb dX5_faultAsWritten_26 rfl (lv_at hl 3 rfl) ?_
        refine g_Si (As := [.int (M2 13 0 x3_5.toNatClampNeg), .int x1_3, .int x2_4]) (rest := []) S hK hN hP hS (qX5_mayBeWritten l D E ad L A hF hLx M2 (M2 13 0 x3_5.toNatClampNeg) x1_3 x2_4  _ hw) (va_cwS 3 hts gX5_faultAsWritten_X5_mayBeWritten rfl rfl rfl eX5_mayBeWritten.2 ⟨Nat.le_of_ble_eq_true rfl, Nat.le_of_ble_eq_true rfl⟩) rfl rfl hl.1 (Nat.le_of_ble_eq_true rfl) ⟨Nat.zero_le _, Nat.zero_le _⟩ dX5_faultAsWritten_27 (fun r9 M8 H locs hw hP hS => ?_)
        refine lv_if_ne (tgt := 35) hx hb dX5_faultAsWritten_30 (by decide) (fun c10 => ?_) (fun c10 => ?_)
        · have hw := hw.2 c10
          refine lv_iload hx hb dX5_faultAsWritten_35 (lv_at hl 0 rfl) ?_
          refine g_SNi (As := [.int (M2 13 0 x3_5.toNatClampNeg)]) (rest := []) S hK hN hP hS (qX8_isLetter l D E ad L A hF hLx M8 (M2 13 0 x3_5.toNatClampNeg)  _ hw) ⟨va_cnB 1 hts gX5_faultAsWritten_X8_isLetter_n30 rfl rfl rfl (hN.2 0 _ rfl) (hts _ mX5_faultAsWritten_8) eX8_isLetter.2 ⟨Nat.le_of_ble_eq_true rfl, Nat.le_of_ble_eq_true rfl⟩, hts _ mX5_faultAsWritten_7, trivial⟩ rfl rfl hl.1 (Nat.le_of_ble_eq_true rfl) ⟨Nat.zero_le _, Nat.zero_le _⟩ dX5_faultAsWritten_37 (fun r12 M11 H locs hw hP hS => ?_)
          refine lv_if_eq (tgt := 46) hx hb dX5_faultAsWritten_40 (by decide) (fun c13 => ?_) (fun c13 => ?_)
          · have hw := hw.1 c13
            refine lv_iload hx hb dX5_faultAsWritten_46 (lv_at hl 0 rfl) ?_
            refine lv_istore_n (lv' := [(1, .int (M2 13 0 x3_5.toNatClampNeg)), (4, .int (M2 13 0 x3_5.toNatClampNeg)), (0, .ref (ad 12 0)), (2, .int x2_4), (3, .int x3_5)]) hx hb dX5_faultAsWritten_48 rfl hl (by decide) rfl (fun ls hl => ?_)
            refine lv_iinc (v := (x3_5 + (1 : Int32))) (lv' := [(3, .int (x3_5 + (1 : Int32))), (1, .int (M2 13 0 x3_5.toNatClampNeg)), (4, .int (M2 13 0 x3_5.toNatClampNeg)), (0, .ref (ad 12 0)), (2, .int x2_4)]) hx hb dX5_faultAsWritten_49 hl (k := 4) rfl rfl (by decide) rfl (fun ls hl => ?_)
            refine lv_goto (tgt := 7) hx hb dX5_faultAsWritten_52 (by decide) ?_
            exact ihn1 _ _ _ _ _ _ _ hw hP hS (lv_sub hl [3, 1, 4, 0] rfl)
          · have hw := hw.2 c13
            refine lv_iinc (v := (x2_4 + (1 : Int32))) (lv' := [(2, .int (x2_4 + (1 : Int32))), (4, .int (M2 13 0 x3_5.toNatClampNeg)), (0, .ref (ad 12 0)), (1, .int x1_3), (3, .int x3_5)]) hx hb dX5_faultAsWritten_43 hl (k := 3) rfl rfl (by decide) rfl (fun ls hl => ?_)
            refine lv_iload hx hb dX5_faultAsWritten_46 (lv_at hl 1 rfl) ?_
            refine lv_istore_n (lv' := [(1, .int (M2 13 0 x3_5.toNatClampNeg)), (2, .int (x2_4 + (1 : Int32))), (4, .int (M2 13 0 x3_5.toNatClampNeg)), (0, .ref (ad 12 0)), (3, .int x3_5)]) hx hb dX5_faultAsWritten_48 rfl hl (by decide) rfl (fun ls hl => ?_)
            refine lv_iinc (v := (x3_5 + (1 : Int32))) (lv' := [(3, .int (x3_5 + (1 : Int32))), (1, .int (M2 13 0 x3_5.toNatClampNeg)), (2, .int (x2_4 + (1 : Int32))), (4, .int (M2 13 0 x3_5.toNatClampNeg)), (0, .ref (ad 12 0))]) hx hb dX5_faultAsWritten_49 hl (k := 4) rfl rfl (by decide) rfl (fun ls hl => ?_)
            refine lv_goto (tgt := 7) hx hb dX5_faultAsWritten_52 (by decide) ?_
            exact ihn1 _ _ _ _ _ _ _ hw hP hS (lv_sub hl [4, 1, 2, 0] rfl)
        · have hw := hw.1 c10
          refine lv_iload_n hx hb dX5_faultAsWritten_33 rfl (lv_at hl 4 rfl) ?_
          exact g_iret hx hb hr hlocks hw hP hS dX5_faultAsWritten_34
  exact hlX5_faultAsWritten_L7 n19 _ _ _ _ _ _ _ hw hP hS (lv_sub hl [3, 2, 1, 0] rfl)
abbrev rmX5_faultAsWords : Room := { frames := 1, cells := 0, slots := 0, locals := 20 }
theorem eX5_faultAsWords : yX5_faultAsWords.cls = RX5 ∧ yX5_faultAsWords.cls ≠ "java/lang/invoke/MethodHandle" ∧ yX5_faultAsWords.cls ≠ "java/lang/invoke/VarHandle" ∧ (parseMethodDescriptor yX5_faultAsWords.desc).map (fun d => d.parameters.length) = some 0 := by decide +kernel
theorem iX5_faultAsWords_X5 : ∀ w ∈ wsX50, w ∈ wsX5_faultAsWords := fun _ h => List.mem_cons_of_mem _ (List.mem_append_right _ (h))
theorem mX5_faultAsWords_1 : Cond.fieldLink RX5 22 "PracticeSheets$Text" "length" "I" ∈ wsX5_faultAsWords := List.mem_of_getElem? (i := 1) rfl
theorem mX5_faultAsWords_2 : Cond.fieldLink RX5 9 "PracticeSheets$Text" "signs" "[C" ∈ wsX5_faultAsWords := List.mem_of_getElem? (i := 2) rfl
theorem mX5_faultAsWords_4 : Cond.initialized RX8 ∈ wsX5_faultAsWords := List.mem_of_getElem? (i := 4) rfl
theorem mX5_faultAsWords_3 : Cond.static yX8_isLetter ∈ wsX5_faultAsWords := List.mem_of_getElem? (i := 3) rfl
set_option maxHeartbeats 4000000 in
set_option maxRecDepth 100000 in
theorem qX5_faultAsWords (l : Launch) (D : va_G) (E : Nat → ClassId) (ad : Nat → Nat → Nat) (L : List (Nat × Nat)) (A : Nat → Prop) (hF : gF E ad L A) (hLx : gLx L) (M0 : gW)  (K : Int32 → gW → Prop) (hw : wX5_faultAsWords M0 K) : Met l yX5_faultAsWords wsX5_faultAsWords rmX5_faultAsWords (va_Pc [.ref (ad 12 0)] (gPre D E ad L M0)) (gQi D E ad L A K) 0 0 A := by
  refine Met.ofW (cc := cX5_faultAsWords) (maxL := 3) (ret := (some .int)) (by decide) rfl ?_
  intro p e s m args below meth c s₁ B hml hv
  obtain ⟨rfl, hP, hK, hN⟩ := hv
  have hx := B.exec
  have hb := B.bytes
  have hr := B.returns
  have hts := atoms_spec (ws := wsX5_faultAsWords) B.pre
  have hown : s.vm.findClass RX5 = some m.cls := findClass_of_methodNamed B.named
  have hlocks := B.notSynchronized
  have S : CallFix p m c cX5_faultAsWords 3 s ([.ref (ad 12 0)] : List Value).toArray wsX5_faultAsWords RX5 := ⟨hx, hb, hml, hown, hts⟩
  have hS : va_S A s.heap s.heap [] := va_S.rf
  have hl := lv_entry ([.ref (ad 12 0)]) (n := 3) (Nat.le_of_ble_eq_true rfl)
  rw [lg_entry_eq]
  generalize (lg_sl ([.ref (ad 12 0)]) ++ List.replicate (3 - (lg_sl ([.ref (ad 12 0)])).length) Slot.unset).toArray = ls at hl ⊢
  have hl : lv_has ls 3 [(0, .ref (ad 12 0))] := hl
  refine lv_iconst (v := (0 : Int32)) hx hb dX5_faultAsWords_0 (by decide) ?_
  refine lv_istore_n (lv' := [(1, .int (0 : Int32)), (0, .ref (ad 12 0))]) hx hb dX5_faultAsWords_1 rfl hl (by decide) rfl (fun ls hl => ?_)
  refine lv_iconst (v := (0 : Int32)) hx hb dX5_faultAsWords_2 (by decide) ?_
  refine lv_istore_n (lv' := [(2, .int (0 : Int32)), (1, .int (0 : Int32)), (0, .ref (ad 12 0))]) hx hb dX5_faultAsWords_3 rfl hl (by decide) rfl (fun ls hl => ?_)
  obtain ⟨n21, hw⟩ := hw
  have hxX5_faultAsWords_L4_0 : ∀ (M17 : gW) (x1_18 : Int32) (x2_19 : Int32) (H : Heap) (locs : List Loc) (ls : Array Slot), ((x1_18 = 0 → (K (M17 12 0 2) M17)) ∧ (¬ (x1_18 = 0) → (K (-1 : Int32) M17))) → va_P D vwCl (gL E ad L M17) H → va_S A s.heap H locs → lv_has ls 3 [(0, .ref (ad 12 0)), (1, .int x1_18), (2, .int x2_19)] → W p l e (headSpec wsX5_faultAsWords rmX5_faultAsWords).room s m (([.ref (ad 12 0)] : List Value).toArray) below meth c H locs 0 0 (MQ below (gQi D E ad L A K) ([.ref (ad 12 0)] : List Value).toArray s 0 0 A) (F0 m 64 ls []) := by
    intro M17 x1_18 x2_19 H locs ls hw hP hS hl
    refine lv_iload_n hx hb dX5_faultAsWords_64 rfl (lv_at hl 1 rfl) ?_
    refine lv_if_ne (tgt := 75) hx hb dX5_faultAsWords_65 (by decide) (fun c20 => ?_) (fun c20 => ?_)
    · have hw := hw.2 c20
      refine lv_iconst (v := (-1 : Int32)) hx hb dX5_faultAsWords_75 (by decide) ?_
      exact g_iret hx hb hr hlocks hw hP hS dX5_faultAsWords_76
    · have hw := hw.1 c20
      refine lv_aload_n hx hb dX5_faultAsWords_68 rfl (lv_at hl 0 rfl) ?_
      refine g_get (v := .int (M17 12 0 2)) hx hb hts hown hK hP (hLx.h (f := 12) (by decide)) (gC12 _ _ _ _) gcl5 iX5_faultAsWords_X5 2 (by decide) mX5_faultAsWords_1 rfl rfl dX5_faultAsWords_69 ?_
      refine lv_goto (tgt := 76) hx hb dX5_faultAsWords_72 (by decide) ?_
      exact g_iret hx hb hr hlocks hw hP hS dX5_faultAsWords_76
  have hlX5_faultAsWords_L4 : ∀ (n1 : Nat) (M2 : gW) (x1_3 : Int32) (x2_4 : Int32) (H : Heap) (locs : List Loc) (ls : Array Slot), wX5_faultAsWords_L4 K (fun M17 x1_18 x2_19 => ((x1_18 = 0 → (K (M17 12 0 2) M17)) ∧ (¬ (x1_18 = 0) → (K (-1 : Int32) M17)))) n1 M2 x1_3 x2_4 → va_P D vwCl (gL E ad L M2) H → va_S A s.heap H locs → lv_has ls 3 [(0, .ref (ad 12 0)), (1, .int x1_3), (2, .int x2_4)] → W p l e (headSpec wsX5_faultAsWords rmX5_faultAsWords).room s m (([.ref (ad 12 0)] : List Value).toArray) below meth c H locs 0 0 (MQ below (gQi D E ad L A K) ([.ref (ad 12 0)] : List Value).toArray s 0 0 A) (F0 m 4 ls []) := by
    intro n1
    induction n1 with
    | zero => intro M2 x1_3 x2_4 H locs ls hw; exact False.elim hw
    | succ n1 ihn1 =>
      intro M2 x1_3 x2_4 H locs ls hw hP hS hl
      refine lv_iload_n hx hb dX5_faultAsWords_4 rfl (lv_at hl 2 rfl) ?_
      refine lv_aload_n hx hb dX5_faultAsWords_5 rfl (lv_at hl 0 rfl) ?_
      refine g_get (v := .int (M2 12 0 2)) hx hb hts hown hK hP (hLx.h (f := 12) (by decide)) (gC12 _ _ _ _) gcl5 iX5_faultAsWords_X5 2 (by decide) mX5_faultAsWords_1 rfl rfl dX5_faultAsWords_6 ?_
      refine lv_icmp_ge (tgt := 64) hx hb dX5_faultAsWords_9 (by decide) (fun c5 => ?_) (fun c5 => ?_)
      · have hw := hw.1 c5
        exact hxX5_faultAsWords_L4_0 _ _ _ _ _ _ hw hP hS (lv_sub hl [0, 1, 2] rfl)
      · have hw := hw.2 c5
        refine lv_aload_n hx hb dX5_faultAsWords_12 rfl (lv_at hl 0 rfl) ?_
        refine g_get (v := .ref (ad 13 0)) hx hb hts hown hK hP (hLx.h (f := 12) (by decide)) (gC12 _ _ _ _) gcl5 iX5_faultAsWords_X5 0 (by decide) mX5_faultAsWords_2 rfl rfl dX5_faultAsWords_13 ?_
        refine lv_iload_n hx hb dX5_faultAsWords_16 rfl (lv_at hl 2 rfl) ?_
        have hb6 := hw.1
        have hw := hw.2
        refine g_cald hx hb hK hP (hLx.h (f := 13) (by decide)) (gC13 _ _ _ _) hb6 dX5_faultAsWords_17 ?_
        refine g_SNi (As := [.int (M2 13 0 x2_4.toNatClampNeg)]) (rest := []) S hK hN hP hS (qX8_isLetter l D E ad L A hF hLx M2 (M2 13 0 x2_4.toNatClampNeg)  _ hw) ⟨va_cnB 1 hts gX5_faultAsWords_X8_isLetter_n30 rfl rfl rfl (hN.2 0 _ rfl) (hts _ mX5_faultAsWords_4) eX8_isLetter.2 ⟨Nat.le_of_ble_eq_true rfl, Nat.le_of_ble_eq_true rfl⟩, hts _ mX5_faultAsWords_3, trivial⟩ rfl rfl hl.1 (Nat.le_of_ble_eq_true rfl) ⟨Nat.zero_le _, Nat.zero_le _⟩ dX5_faultAsWords_18 (fun r8 M7 H locs hw hP hS => ?_)
        refine lv_if_eq (tgt := 36) hx hb dX5_faultAsWords_21 (by decide) (fun c9 => ?_) (fun c9 => ?_)
        · have hw := hw.1 c9
          refine lv_aload_n hx hb dX5_faultAsWords_36 rfl (lv_at hl 0 rfl) ?_
          refine g_get (v := .ref (ad 13 0)) hx hb hts hown hK hP (hLx.h (f := 12) (by decide)) (gC12 _ _ _ _) gcl5 iX5_faultAsWords_X5 0 (by decide) mX5_faultAsWords_2 rfl rfl dX5_faultAsWords_37 ?_
          refine lv_iload_n hx hb dX5_faultAsWords_40 rfl (lv_at hl 2 rfl) ?_
          have hb10 := hw.1
          have hw := hw.2
          refine g_cald hx hb hK hP (hLx.h (f := 13) (by decide)) (gC13 _ _ _ _) hb10 dX5_faultAsWords_41 ?_
          refine lv_bipush (v := (44 : Int32)) hx hb dX5_faultAsWords_42 (by decide) ?_
          refine lv_icmp_ne (tgt := 56) hx hb dX5_faultAsWords_44 (by decide) (fun c11 => ?_) (fun c11 => ?_)
          · have hw := hw.2 c11
            refine lv_iload_n hx hb dX5_faultAsWords_56 rfl (lv_at hl 2 rfl) ?_
            exact g_iret hx hb hr hlocks hw hP hS dX5_faultAsWords_57
          · have hw := hw.1 c11
            refine lv_iload_n hx hb dX5_faultAsWords_47 rfl (lv_at hl 1 rfl) ?_
            refine lv_if_le (tgt := 56) hx hb dX5_faultAsWords_48 (by decide) (fun c12 => ?_) (fun c12 => ?_)
            · have hw := hw.1 c12
              refine lv_iload_n hx hb dX5_faultAsWords_56 rfl (lv_at hl 2 rfl) ?_
              exact g_iret hx hb hr hlocks hw hP hS dX5_faultAsWords_57
            · have hw := hw.2 c12
              refine lv_iconst (v := (0 : Int32)) hx hb dX5_faultAsWords_51 (by decide) ?_
              refine lv_istore_n (lv' := [(1, .int (0 : Int32)), (0, .ref (ad 12 0)), (2, .int x2_4)]) hx hb dX5_faultAsWords_52 rfl hl (by decide) rfl (fun ls hl => ?_)
              refine lv_goto (tgt := 58) hx hb dX5_faultAsWords_53 (by decide) ?_
              refine lv_iinc (v := (x2_4 + (1 : Int32))) (lv' := [(2, .int (x2_4 + (1 : Int32))), (1, .int (0 : Int32)), (0, .ref (ad 12 0))]) hx hb dX5_faultAsWords_58 hl (k := 2) rfl rfl (by decide) rfl (fun ls hl => ?_)
              refine lv_goto (tgt := 4) hx hb dX5_faultAsWords_61 (by decide) ?_
              exact ihn1 _ _ _ _ _ _ hw hP hS (lv_sub hl [2, 1, 0] rfl)
        · have hw := hw.2 c9
          refine lv_iload_n hx hb dX5_faultAsWords_24 rfl (lv_at hl 1 rfl) ?_
          refine lv_bipush (v := (15 : Int32)) hx hb dX5_faultAsWords_25 (by decide) ?_
          refine lv_icmp_ge (tgt := 36) hx hb dX5_faultAsWords_27 (by decide) (fun c13 => ?_) (fun c13 => ?_)
          · have hw := hw.1 c13
            refine lv_aload_n hx hb dX5_faultAsWords_36 rfl (lv_at hl 0 rfl) ?_
            refine g_get (v := .ref (ad 13 0)) hx hb hts hown hK hP (hLx.h (f := 12) (by decide)) (gC12 _ _ _ _) gcl5 iX5_faultAsWords_X5 0 (by decide) mX5_faultAsWords_2 rfl rfl dX5_faultAsWords_37 ?_
            refine lv_iload_n hx hb dX5_faultAsWords_40 rfl (lv_at hl 2 rfl) ?_
            have hb14 := hw.1
            have hw := hw.2
            refine g_cald hx hb hK hP (hLx.h (f := 13) (by decide)) (gC13 _ _ _ _) hb14 dX5_faultAsWords_41 ?_
            refine lv_bipush (v := (44 : Int32)) hx hb dX5_faultAsWords_42 (by decide) ?_
            refine lv_icmp_ne (tgt := 56) hx hb dX5_faultAsWords_44 (by decide) (fun c15 => ?_) (fun c15 => ?_)
            · have hw := hw.2 c15
              refine lv_iload_n hx hb dX5_faultAsWords_56 rfl (lv_at hl 2 rfl) ?_
              exact g_iret hx hb hr hlocks hw hP hS dX5_faultAsWords_57
            · have hw := hw.1 c15
              refine lv_iload_n hx hb dX5_faultAsWords_47 rfl (lv_at hl 1 rfl) ?_
              refine lv_if_le (tgt := 56) hx hb dX5_faultAsWords_48 (by decide) (fun c16 => ?_) (fun c16 => ?_)
              · have hw := hw.1 c16
                refine lv_iload_n hx hb dX5_faultAsWords_56 rfl (lv_at hl 2 rfl) ?_
                exact g_iret hx hb hr hlocks hw hP hS dX5_faultAsWords_57
              · have hw := hw.2 c16
                refine lv_iconst (v := (0 : Int32)) hx hb dX5_faultAsWords_51 (by decide) ?_
                refine lv_istore_n (lv' := [(1, .int (0 : Int32)), (0, .ref (ad 12 0)), (2, .int x2_4)]) hx hb dX5_faultAsWords_52 rfl hl (by decide) rfl (fun ls hl => ?_)
                refine lv_goto (tgt := 58) hx hb dX5_faultAsWords_53 (by decide) ?_
                refine lv_iinc (v := (x2_4 + (1 : Int32))) (lv' := [(2, .int (x2_4 + (1 : Int32))), (1, .int (0 : Int32)), (0, .ref (ad 12 0))]) hx hb dX5_faultAsWords_58 hl (k := 2) rfl rfl (by decide) rfl (fun ls hl => ?_)
                refine lv_goto (tgt := 4) hx hb dX5_faultAsWords_61 (by decide) ?_
                exact ihn1 _ _ _ _ _ _ hw hP hS (lv_sub hl [2, 1, 0] rfl)
          · have hw := hw.2 c13
            refine lv_iinc (v := (x1_3 + (1 : Int32))) (lv' := [(1, .int (x1_3 + (1 : Int32))), (0, .ref (ad 12 0)), (2, .int x2_4)]) hx hb dX5_faultAsWords_30 hl (k := 1) rfl rfl (by decide) rfl (fun ls hl => ?_)
            refine lv_goto (tgt := 58) hx hb dX5_faultAsWords_33 (by decide) ?_
            refine lv_iinc (v := (x2_4 + (1 : Int32))) (lv' := [(2, .int (x2_4 + (1 : Int32))), (1, .int (x1_3 + (1 : Int32))), (0, .ref (ad 12 0))]) hx hb dX5_faultAsWords_58 hl (k := 2) rfl rfl (by decide) rfl (fun ls hl => ?_)
            refine lv_goto (tgt := 4) hx hb dX5_faultAsWords_61 (by decide) ?_
            exact ihn1 _ _ _ _ _ _ hw hP hS (lv_sub hl [2, 1, 0] rfl)
  exact hlX5_faultAsWords_L4 n21 _ _ _ _ _ _ hw hP hS (lv_sub hl [2, 1, 0] rfl)
abbrev rmX8_letterNumber : Room := { frames := 0, cells := 0, slots := 0, locals := 0 }
theorem eX8_letterNumber : yX8_letterNumber.cls = RX8 ∧ yX8_letterNumber.cls ≠ "java/lang/invoke/MethodHandle" ∧ yX8_letterNumber.cls ≠ "java/lang/invoke/VarHandle" ∧ (parseMethodDescriptor yX8_letterNumber.desc).map (fun d => d.parameters.length) = some 1 := by decide +kernel
set_option maxHeartbeats 4000000 in
set_option maxRecDepth 100000 in
theorem qX8_letterNumber (l : Launch) (D : va_G) (E : Nat → ClassId) (ad : Nat → Nat → Nat) (L : List (Nat × Nat)) (A : Nat → Prop) (hF : gF E ad L A) (hLx : gLx L) (M0 : gW) (a0 : Int32)  (K : Int32 → gW → Prop) (hw : wX8_letterNumber M0 a0 K) : Met l yX8_letterNumber wsX8_letterNumber rmX8_letterNumber (va_Pc [.int a0] (gPre D E ad L M0)) (gQi D E ad L A K) 0 0 A := by
  refine Met.ofW (cc := cX8_letterNumber) (maxL := 1) (ret := (some .int)) (by decide) rfl ?_
  intro p e s m args below meth c s₁ B hml hv
  obtain ⟨rfl, hP, hK, hN⟩ := hv
  have hx := B.exec
  have hb := B.bytes
  have hr := B.returns
  have hts := atoms_spec (ws := wsX8_letterNumber) B.pre
  have hown : s.vm.findClass RX8 = some m.cls := findClass_of_methodNamed B.named
  have hlocks := B.notSynchronized
  have S : CallFix p m c cX8_letterNumber 1 s ([.int a0] : List Value).toArray wsX8_letterNumber RX8 := ⟨hx, hb, hml, hown, hts⟩
  have hS : va_S A s.heap s.heap [] := va_S.rf
  have hl := lv_entry ([.int a0]) (n := 1) (Nat.le_of_ble_eq_true rfl)
  rw [lg_entry_eq]
  generalize (lg_sl ([.int a0]) ++ List.replicate (1 - (lg_sl ([.int a0])).length) Slot.unset).toArray = ls at hl ⊢
  have hl : lv_has ls 1 [(0, .int a0)] := hl
  refine lv_iload_n hx hb dX8_letterNumber_0 rfl (lv_at hl 0 rfl) ?_
  refine lv_bipush (v := (97 : Int32)) hx hb dX8_letterNumber_1 (by decide) ?_
  refine lv_isub hx hb dX8_letterNumber_3 ?_
  exact g_iret hx hb hr hlocks hw hP hS dX8_letterNumber_4
abbrev rmX5_tryJoin : Room := { frames := 2, cells := 0, slots := 0, locals := 41 }
theorem eX5_tryJoin : yX5_tryJoin.cls = RX5 ∧ yX5_tryJoin.cls ≠ "java/lang/invoke/MethodHandle" ∧ yX5_tryJoin.cls ≠ "java/lang/invoke/VarHandle" ∧ (parseMethodDescriptor yX5_tryJoin.desc).map (fun d => d.parameters.length) = some 3 := by decide +kernel
set_option maxHeartbeats 4000000 in
set_option maxRecDepth 100000 in
theorem qX5_tryJoin (l : Launch) (D : va_G) (E : Nat → ClassId) (ad : Nat → Nat → Nat) (L : List (Nat × Nat)) (A : Nat → Prop) (hF : gF E ad L A) (hLx : gLx L) (M0 : gW) (k0 : Nat) (a1 : Int32) (a2 : Int32) (hk0 : k0 < gN 2) (K : gW → Prop) (hw : wX5_tryJoin M0 k0 a1 a2 K) : Met l yX5_tryJoin wsX5_tryJoin rmX5_tryJoin (va_Pc [.ref (ad 2 k0), .int a1, .int a2] (gPre D E ad L M0)) (gQv D E ad L A K) 0 0 A := by
  refine Met.ofW (cc := cX5_tryJoin) (maxL := 3) (ret := none) (by decide) rfl ?_
  intro p e s m args below meth c s₁ B hml hv
  obtain ⟨rfl, hP, hK, hN⟩ := hv
  have hx := B.exec
  have hb := B.bytes
  have hr := B.returns
  have hts := atoms_spec (ws := wsX5_tryJoin) B.pre
  have hown : s.vm.findClass RX5 = some m.cls := findClass_of_methodNamed B.named
  have hlocks := B.notSynchronized
  have S : CallFix p m c cX5_tryJoin 3 s ([.ref (ad 2 k0), .int a1, .int a2] : List Value).toArray wsX5_tryJoin RX5 := ⟨hx, hb, hml, hown, hts⟩
  have hS : va_S A s.heap s.heap [] := va_S.rf
  have hl := lv_entry ([.ref (ad 2 k0), .int a1, .int a2]) (n := 3) (Nat.le_of_ble_eq_true rfl)
  rw [lg_entry_eq]
  generalize (lg_sl ([.ref (ad 2 k0), .int a1, .int a2]) ++ List.replicate (3 - (lg_sl ([.ref (ad 2 k0), .int a1, .int a2])).length) Slot.unset).toArray = ls at hl ⊢
  have hl : lv_has ls 3 [(0, .ref (ad 2 k0)), (1, .int a1), (2, .int a2)] := hl
  refine lv_aload_n hx hb dX5_tryJoin_0 rfl (lv_at hl 0 rfl) ?_
  refine lv_iload_n hx hb dX5_tryJoin_1 rfl (lv_at hl 1 rfl) ?_
  refine g_Vv (As := [.int a1]) (rest := []) S hK hN hP hS (qX1_addTry l D E ad L A hF hLx M0 k0 a1 hk0 _ hw) (cwV 1 hts gX5_tryJoin_X1_addTry rfl rfl rfl eX1_addTry ⟨Nat.le_of_ble_eq_true rfl, Nat.le_of_ble_eq_true rfl⟩) (hLx.h (f := 2) hk0) (gC2 _ _ _ _) gcl1 rfl rfl rfl hl.1 (Nat.le_of_ble_eq_true rfl) ⟨Nat.zero_le _, Nat.zero_le _⟩ dX5_tryJoin_2 (fun M1 H locs hw hP hS => ?_)
  refine lv_iload_n hx hb dX5_tryJoin_5 rfl (lv_at hl 2 rfl) ?_
  refine lv_if_eq (tgt := 14) hx hb dX5_tryJoin_6 (by decide) (fun c2 => ?_) (fun c2 => ?_)
  · have hw := hw.1 c2
    exact g_vret hx hb hr hlocks hw hP hS dX5_tryJoin_14
  · have hw := hw.2 c2
    refine lv_aload_n hx hb dX5_tryJoin_9 rfl (lv_at hl 0 rfl) ?_
    refine lv_iload_n hx hb dX5_tryJoin_10 rfl (lv_at hl 1 rfl) ?_
    refine g_Vv (As := [.int a1]) (rest := []) S hK hN hP hS (qX1_addSlip l D E ad L A hF hLx M1 k0 a1 hk0 _ hw) (cwV 1 hts gX5_tryJoin_X1_addSlip rfl rfl rfl eX1_addSlip ⟨Nat.le_of_ble_eq_true rfl, Nat.le_of_ble_eq_true rfl⟩) (hLx.h (f := 2) hk0) (gC2 _ _ _ _) gcl1 rfl rfl rfl hl.1 (Nat.le_of_ble_eq_true rfl) ⟨Nat.zero_le _, Nat.zero_le _⟩ dX5_tryJoin_11 (fun M3 H locs hw hP hS => ?_)
    exact g_vret hx hb hr hlocks hw hP hS dX5_tryJoin_14
abbrev rmX5_practiseIn : Room := { frames := 3, cells := 0, slots := 0, locals := 63 }
theorem eX5_practiseIn : yX5_practiseIn.cls = RX5 ∧ yX5_practiseIn.cls ≠ "java/lang/invoke/MethodHandle" ∧ yX5_practiseIn.cls ≠ "java/lang/invoke/VarHandle" ∧ (parseMethodDescriptor yX5_practiseIn.desc).map (fun d => d.parameters.length) = some 1 := by decide +kernel
theorem iX5_practiseIn_X5 : ∀ w ∈ wsX50, w ∈ wsX5_practiseIn := fun _ h => List.mem_cons_of_mem _ (List.mem_append_left _ (List.mem_append_right _ (h)))
theorem mX5_practiseIn_1 : Cond.fieldLink RX5 22 "PracticeSheets$Text" "length" "I" ∈ wsX5_practiseIn := List.mem_of_getElem? (i := 1) rfl
theorem mX5_practiseIn_2 : Cond.fieldLink RX5 9 "PracticeSheets$Text" "signs" "[C" ∈ wsX5_practiseIn := List.mem_of_getElem? (i := 2) rfl
theorem mX5_practiseIn_10 : Cond.initialized RX8 ∈ wsX5_practiseIn := List.mem_of_getElem? (i := 10) rfl
theorem mX5_practiseIn_12 : Cond.static yX8_letterNumber ∈ wsX5_practiseIn := List.mem_of_getElem? (i := 12) rfl
theorem mX5_practiseIn_19 : Cond.static yX8_joinPart ∈ wsX5_practiseIn := List.mem_of_getElem? (i := 19) rfl
set_option maxHeartbeats 4000000 in
set_option maxRecDepth 100000 in
theorem qX5_practiseIn (l : Launch) (D : va_G) (E : Nat → ClassId) (ad : Nat → Nat → Nat) (L : List (Nat × Nat)) (A : Nat → Prop) (hF : gF E ad L A) (hLx : gLx L) (M0 : gW) (k1 : Nat) (hk1 : k1 < gN 2) (K : Int32 → gW → Prop) (hw : wX5_practiseIn M0 k1 K) : Met l yX5_practiseIn wsX5_practiseIn rmX5_practiseIn (va_Pc [.ref (ad 12 0), .ref (ad 2 k1)] (gPre D E ad L M0)) (gQi D E ad L A K) 0 0 A := by
  refine Met.ofW (cc := cX5_practiseIn) (maxL := 8) (ret := (some .int)) (by decide) rfl ?_
  intro p e s m args below meth c s₁ B hml hv
  obtain ⟨rfl, hP, hK, hN⟩ := hv
  have hx := B.exec
  have hb := B.bytes
  have hr := B.returns
  have hts := atoms_spec (ws := wsX5_practiseIn) B.pre
  have hown : s.vm.findClass RX5 = some m.cls := findClass_of_methodNamed B.named
  have hlocks := B.notSynchronized
  have S : CallFix p m c cX5_practiseIn 8 s ([.ref (ad 12 0), .ref (ad 2 k1)] : List Value).toArray wsX5_practiseIn RX5 := ⟨hx, hb, hml, hown, hts⟩
  have hS : va_S A s.heap s.heap [] := va_S.rf
  have hl := lv_entry ([.ref (ad 12 0), .ref (ad 2 k1)]) (n := 8) (Nat.le_of_ble_eq_true rfl)
  rw [lg_entry_eq]
  generalize (lg_sl ([.ref (ad 12 0), .ref (ad 2 k1)]) ++ List.replicate (8 - (lg_sl ([.ref (ad 12 0), .ref (ad 2 k1)])).length) Slot.unset).toArray = ls at hl ⊢
  have hl : lv_has ls 8 [(0, .ref (ad 12 0)), (1, .ref (ad 2 k1))] := hl
  refine lv_iconst (v := (0 : Int32)) hx hb dX5_practiseIn_0 (by decide) ?_
  refine lv_istore_n (lv' := [(2, .int (0 : Int32)), (0, .ref (ad 12 0)), (1, .ref (ad 2 k1))]) hx hb dX5_practiseIn_1 rfl hl (by decide) rfl (fun ls hl => ?_)
  refine lv_bipush (v := (-5 : Int32)) hx hb dX5_practiseIn_2 (by decide) ?_
  refine lv_istore_n (lv' := [(3, .int (-5 : Int32)), (2, .int (0 : Int32)), (0, .ref (ad 12 0)), (1, .ref (ad 2 k1))]) hx hb dX5_practiseIn_4 rfl hl (by decide) rfl (fun ls hl => ?_)
  refine lv_iconst (v := (0 : Int32)) hx hb dX5_practiseIn_5 (by decide) ?_
  refine lv_istore (lv' := [(4, .int (0 : Int32)), (3, .int (-5 : Int32)), (2, .int (0 : Int32)), (0, .ref (ad 12 0)), (1, .ref (ad 2 k1))]) hx hb dX5_practiseIn_6 hl (by decide) rfl (fun ls hl => ?_)
  refine lv_iconst (v := (0 : Int32)) hx hb dX5_practiseIn_8 (by decide) ?_
  refine lv_istore (lv' := [(5, .int (0 : Int32)), (4, .int (0 : Int32)), (3, .int (-5 : Int32)), (2, .int (0 : Int32)), (0, .ref (ad 12 0)), (1, .ref (ad 2 k1))]) hx hb dX5_practiseIn_9 hl (by decide) rfl (fun ls hl => ?_)
  obtain ⟨n24, hw⟩ := hw
  have hxX5_practiseIn_L11_0 : ∀ (M19 : gW) (x2_20 : Int32) (x3_21 : Int32) (x4_22 : Int32) (x5_23 : Int32) (H : Heap) (locs : List Loc) (ls : Array Slot), (K x2_20 M19) → va_P D vwCl (gL E ad L M19) H → va_S A s.heap H locs → lv_has ls 8 [(0, .ref (ad 12 0)), (1, .ref (ad 2 k1)), (2, .int x2_20), (3, .int x3_21), (4, .int x4_22), (5, .int x5_23)] → W p l e (headSpec wsX5_practiseIn rmX5_practiseIn).room s m (([.ref (ad 12 0), .ref (ad 2 k1)] : List Value).toArray) below meth c H locs 0 0 (MQ below (gQi D E ad L A K) ([.ref (ad 12 0), .ref (ad 2 k1)] : List Value).toArray s 0 0 A) (F0 m 106 ls []) := by
    intro M19 x2_20 x3_21 x4_22 x5_23 H locs ls hw hP hS hl
    refine lv_iload_n hx hb dX5_practiseIn_106 rfl (lv_at hl 2 rfl) ?_
    exact g_iret hx hb hr hlocks hw hP hS dX5_practiseIn_107
  have hlX5_practiseIn_L11 : ∀ (n1 : Nat) (M2 : gW) (x2_3 : Int32) (x3_4 : Int32) (x4_5 : Int32) (x5_6 : Int32) (H : Heap) (locs : List Loc) (ls : Array Slot), wX5_practiseIn_L11 k1 (fun M19 x2_20 x3_21 x4_22 x5_23 => (K x2_20 M19)) n1 M2 x2_3 x3_4 x4_5 x5_6 → va_P D vwCl (gL E ad L M2) H → va_S A s.heap H locs → lv_has ls 8 [(0, .ref (ad 12 0)), (1, .ref (ad 2 k1)), (2, .int x2_3), (3, .int x3_4), (4, .int x4_5), (5, .int x5_6)] → W p l e (headSpec wsX5_practiseIn rmX5_practiseIn).room s m (([.ref (ad 12 0), .ref (ad 2 k1)] : List Value).toArray) below meth c H locs 0 0 (MQ below (gQi D E ad L A K) ([.ref (ad 12 0), .ref (ad 2 k1)] : List Value).toArray s 0 0 A) (F0 m 11 ls []) := by
    intro n1
    induction n1 with
    | zero => intro M2 x2_3 x3_4 x4_5 x5_6 H locs ls hw; exact False.elim hw
    | succ n1 ihn1 =>
      intro M2 x2_3 x3_4 x4_5 x5_6 H locs ls hw hP hS hl
      refine lv_iload hx hb dX5_practiseIn_11 (lv_at hl 5 rfl) ?_
      refine lv_aload_n hx hb dX5_practiseIn_13 rfl (lv_at hl 0 rfl) ?_
      refine g_get (v := .int (M2 12 0 2)) hx hb hts hown hK hP (hLx.h (f := 12) (by decide)) (gC12 _ _ _ _) gcl5 iX5_practiseIn_X5 2 (by decide) mX5_practiseIn_1 rfl rfl dX5_practiseIn_14 ?_
      refine lv_icmp_ge (tgt := 106) hx hb dX5_practiseIn_17 (by decide) (fun c7 => ?_) (fun c7 => ?_)
      · have hw := hw.1 c7
        exact hxX5_practiseIn_L11_0 _ _ _ _ _ _ _ _ hw hP hS (lv_sub hl [0, 1, 2, 3, 4, 5] rfl)
      · have hw := hw.2 c7
        refine lv_aload_n hx hb dX5_practiseIn_20 rfl (lv_at hl 0 rfl) ?_
        refine g_get (v := .ref (ad 13 0)) hx hb hts hown hK hP (hLx.h (f := 12) (by decide)) (gC12 _ _ _ _) gcl5 iX5_practiseIn_X5 0 (by decide) mX5_practiseIn_2 rfl rfl dX5_practiseIn_21 ?_
        refine lv_iload hx hb dX5_practiseIn_24 (lv_at hl 5 rfl) ?_
        have hb8 := hw.1
        have hw := hw.2
        refine g_cald hx hb hK hP (hLx.h (f := 13) (by decide)) (gC13 _ _ _ _) hb8 dX5_practiseIn_26 ?_
        refine lv_istore (lv' := [(6, .int (M2 13 0 x5_6.toNatClampNeg)), (0, .ref (ad 12 0)), (1, .ref (ad 2 k1)), (2, .int x2_3), (3, .int x3_4), (4, .int x4_5), (5, .int x5_6)]) hx hb dX5_practiseIn_27 hl (by decide) rfl (fun ls hl => ?_)
        refine lv_iload hx hb dX5_practiseIn_29 (lv_at hl 0 rfl) ?_
        refine lv_bipush (v := (33 : Int32)) hx hb dX5_practiseIn_31 (by decide) ?_
        refine lv_icmp_ne (tgt := 47) hx hb dX5_practiseIn_33 (by decide) (fun c9 => ?_) (fun c9 => ?_)
        · have hw := hw.2 c9
          refine lv_iload hx hb dX5_practiseIn_47 (lv_at hl 0 rfl) ?_
          refine lv_bipush (v := (45 : Int32)) hx hb dX5_practiseIn_49 (by decide) ?_
          refine lv_icmp_ne (tgt := 63) hx hb dX5_practiseIn_51 (by decide) (fun c10 => ?_) (fun c10 => ?_)
          · have hw := hw.2 c10
            refine lv_iload hx hb dX5_practiseIn_63 (lv_at hl 0 rfl) ?_
            refine g_SNi (As := [.int (M2 13 0 x5_6.toNatClampNeg)]) (rest := []) S hK hN hP hS (qX8_letterNumber l D E ad L A hF hLx M2 (M2 13 0 x5_6.toNatClampNeg)  _ hw) ⟨va_cnB 1 hts gX5_practiseIn_X8_letterNumber_n40 rfl rfl rfl (hN.2 2 _ rfl) (hts _ mX5_practiseIn_10) eX8_letterNumber.2 ⟨Nat.le_of_ble_eq_true rfl, Nat.le_of_ble_eq_true rfl⟩, hts _ mX5_practiseIn_12, trivial⟩ rfl rfl hl.1 (Nat.le_of_ble_eq_true rfl) ⟨Nat.zero_le _, Nat.zero_le _⟩ dX5_practiseIn_65 (fun r12 M11 H locs hw hP hS => ?_)
            refine lv_istore (lv' := [(7, .int r12), (6, .int (M2 13 0 x5_6.toNatClampNeg)), (0, .ref (ad 12 0)), (1, .ref (ad 2 k1)), (2, .int x2_3), (3, .int x3_4), (4, .int x4_5), (5, .int x5_6)]) hx hb dX5_practiseIn_68 hl (by decide) rfl (fun ls hl => ?_)
            refine lv_aload_n hx hb dX5_practiseIn_70 rfl (lv_at hl 3 rfl) ?_
            refine lv_iload hx hb dX5_practiseIn_71 (lv_at hl 0 rfl) ?_
            refine g_Vv (As := [.int r12]) (rest := []) S hK hN hP hS (qX1_addTry l D E ad L A hF hLx M11 k1 r12 hk1 _ hw) (cwV 1 hts gX5_practiseIn_X1_addTry rfl rfl rfl eX1_addTry ⟨Nat.le_of_ble_eq_true rfl, Nat.le_of_ble_eq_true rfl⟩) (hLx.h (f := 2) hk1) (gC2 _ _ _ _) gcl1 rfl rfl rfl hl.1 (Nat.le_of_ble_eq_true rfl) ⟨Nat.zero_le _, Nat.zero_le _⟩ dX5_practiseIn_73 (fun M13 H locs hw hP hS => ?_)
            refine lv_iload_n hx hb dX5_practiseIn_76 rfl (lv_at hl 5 rfl) ?_
            refine lv_bipush (v := (-5 : Int32)) hx hb dX5_practiseIn_77 (by decide) ?_
            refine lv_icmp_eq (tgt := 94) hx hb dX5_practiseIn_79 (by decide) (fun c14 => ?_) (fun c14 => ?_)
            · have hw := hw.1 c14
              refine lv_iconst (v := (0 : Int32)) hx hb dX5_practiseIn_94 (by decide) ?_
              refine lv_istore (lv' := [(4, .int (0 : Int32)), (7, .int r12), (6, .int (M2 13 0 x5_6.toNatClampNeg)), (0, .ref (ad 12 0)), (1, .ref (ad 2 k1)), (2, .int x2_3), (3, .int x3_4), (5, .int x5_6)]) hx hb dX5_practiseIn_95 hl (by decide) rfl (fun ls hl => ?_)
              refine lv_iload hx hb dX5_practiseIn_97 (lv_at hl 1 rfl) ?_
              refine lv_istore_n (lv' := [(3, .int r12), (4, .int (0 : Int32)), (7, .int r12), (6, .int (M2 13 0 x5_6.toNatClampNeg)), (0, .ref (ad 12 0)), (1, .ref (ad 2 k1)), (2, .int x2_3), (5, .int x5_6)]) hx hb dX5_practiseIn_99 rfl hl (by decide) rfl (fun ls hl => ?_)
              refine lv_iinc (v := (x5_6 + (1 : Int32))) (lv' := [(5, .int (x5_6 + (1 : Int32))), (3, .int r12), (4, .int (0 : Int32)), (7, .int r12), (6, .int (M2 13 0 x5_6.toNatClampNeg)), (0, .ref (ad 12 0)), (1, .ref (ad 2 k1)), (2, .int x2_3)]) hx hb dX5_practiseIn_100 hl (k := 7) rfl rfl (by decide) rfl (fun ls hl => ?_)
              refine lv_goto (tgt := 11) hx hb dX5_practiseIn_103 (by decide) ?_
              exact ihn1 _ _ _ _ _ _ _ _ hw hP hS (lv_sub hl [5, 6, 7, 1, 2, 0] rfl)
            · have hw := hw.2 c14
              refine lv_aload_n hx hb dX5_practiseIn_82 rfl (lv_at hl 3 rfl) ?_
              refine lv_iload_n hx hb dX5_practiseIn_83 rfl (lv_at hl 5 rfl) ?_
              refine lv_iload hx hb dX5_practiseIn_84 (lv_at hl 0 rfl) ?_
              refine g_SNi (As := [.int x3_4, .int r12]) (rest := [.ref (ad 2 k1)]) S hK hN hP hS (qX8_joinPart l D E ad L A hF hLx M13 x3_4 r12  _ hw) ⟨va_cnB 2 hts gX5_practiseIn_X8_joinPart_n47 rfl rfl rfl (hN.2 3 _ rfl) (hts _ mX5_practiseIn_10) eX8_joinPart.2 ⟨Nat.le_of_ble_eq_true rfl, Nat.le_of_ble_eq_true rfl⟩, hts _ mX5_practiseIn_19, trivial⟩ rfl rfl hl.1 (Nat.le_of_ble_eq_true rfl) ⟨Nat.zero_le _, Nat.zero_le _⟩ dX5_practiseIn_86 (fun r16 M15 H locs hw hP hS => ?_)
              refine lv_iload hx hb dX5_practiseIn_89 (lv_at hl 6 rfl) ?_
              refine g_Sv (As := [.ref (ad 2 k1), .int r16, .int x4_5]) (rest := []) S hK hN hP hS (qX5_tryJoin l D E ad L A hF hLx M15 k1 r16 x4_5 hk1 _ hw) (va_cwS 3 hts gX5_practiseIn_X5_tryJoin rfl rfl rfl eX5_tryJoin.2 ⟨Nat.le_of_ble_eq_true rfl, Nat.le_of_ble_eq_true rfl⟩) rfl rfl hl.1 (Nat.le_of_ble_eq_true rfl) ⟨Nat.zero_le _, Nat.zero_le _⟩ dX5_practiseIn_91 (fun M17 H locs hw hP hS => ?_)
              refine lv_iconst (v := (0 : Int32)) hx hb dX5_practiseIn_94 (by decide) ?_
              refine lv_istore (lv' := [(4, .int (0 : Int32)), (7, .int r12), (6, .int (M2 13 0 x5_6.toNatClampNeg)), (0, .ref (ad 12 0)), (1, .ref (ad 2 k1)), (2, .int x2_3), (3, .int x3_4), (5, .int x5_6)]) hx hb dX5_practiseIn_95 hl (by decide) rfl (fun ls hl => ?_)
              refine lv_iload hx hb dX5_practiseIn_97 (lv_at hl 1 rfl) ?_
              refine lv_istore_n (lv' := [(3, .int r12), (4, .int (0 : Int32)), (7, .int r12), (6, .int (M2 13 0 x5_6.toNatClampNeg)), (0, .ref (ad 12 0)), (1, .ref (ad 2 k1)), (2, .int x2_3), (5, .int x5_6)]) hx hb dX5_practiseIn_99 rfl hl (by decide) rfl (fun ls hl => ?_)
              refine lv_iinc (v := (x5_6 + (1 : Int32))) (lv' := [(5, .int (x5_6 + (1 : Int32))), (3, .int r12), (4, .int (0 : Int32)), (7, .int r12), (6, .int (M2 13 0 x5_6.toNatClampNeg)), (0, .ref (ad 12 0)), (1, .ref (ad 2 k1)), (2, .int x2_3)]) hx hb dX5_practiseIn_100 hl (k := 7) rfl rfl (by decide) rfl (fun ls hl => ?_)
              refine lv_goto (tgt := 11) hx hb dX5_practiseIn_103 (by decide) ?_
              exact ihn1 _ _ _ _ _ _ _ _ hw hP hS (lv_sub hl [5, 6, 7, 1, 2, 0] rfl)
          · have hw := hw.1 c10
            refine lv_iconst (v := (1 : Int32)) hx hb dX5_practiseIn_54 (by decide) ?_
            refine lv_istore (lv' := [(4, .int (1 : Int32)), (6, .int (M2 13 0 x5_6.toNatClampNeg)), (0, .ref (ad 12 0)), (1, .ref (ad 2 k1)), (2, .int x2_3), (3, .int x3_4), (5, .int x5_6)]) hx hb dX5_practiseIn_55 hl (by decide) rfl (fun ls hl => ?_)
            refine lv_iinc (v := (x2_3 + (1 : Int32))) (lv' := [(2, .int (x2_3 + (1 : Int32))), (4, .int (1 : Int32)), (6, .int (M2 13 0 x5_6.toNatClampNeg)), (0, .ref (ad 12 0)), (1, .ref (ad 2 k1)), (3, .int x3_4), (5, .int x5_6)]) hx hb dX5_practiseIn_57 hl (k := 4) rfl rfl (by decide) rfl (fun ls hl => ?_)
            refine lv_goto (tgt := 100) hx hb dX5_practiseIn_60 (by decide) ?_
            refine lv_iinc (v := (x5_6 + (1 : Int32))) (lv' := [(5, .int (x5_6 + (1 : Int32))), (2, .int (x2_3 + (1 : Int32))), (4, .int (1 : Int32)), (6, .int (M2 13 0 x5_6.toNatClampNeg)), (0, .ref (ad 12 0)), (1, .ref (ad 2 k1)), (3, .int x3_4)]) hx hb dX5_practiseIn_100 hl (k := 6) rfl rfl (by decide) rfl (fun ls hl => ?_)
            refine lv_goto (tgt := 11) hx hb dX5_practiseIn_103 (by decide) ?_
            exact ihn1 _ _ _ _ _ _ _ _ hw hP hS (lv_sub hl [4, 5, 1, 6, 2, 0] rfl)
        · have hw := hw.1 c9
          refine lv_aload_n hx hb dX5_practiseIn_36 rfl (lv_at hl 2 rfl) ?_
          refine lv_iload_n hx hb dX5_practiseIn_37 rfl (lv_at hl 4 rfl) ?_
          refine g_Vv (As := [.int x3_4]) (rest := []) S hK hN hP hS (qX1_addSlip l D E ad L A hF hLx M2 k1 x3_4 hk1 _ hw) (cwV 1 hts gX5_practiseIn_X1_addSlip rfl rfl rfl eX1_addSlip ⟨Nat.le_of_ble_eq_true rfl, Nat.le_of_ble_eq_true rfl⟩) (hLx.h (f := 2) hk1) (gC2 _ _ _ _) gcl1 rfl rfl rfl hl.1 (Nat.le_of_ble_eq_true rfl) ⟨Nat.zero_le _, Nat.zero_le _⟩ dX5_practiseIn_38 (fun M18 H locs hw hP hS => ?_)
          refine lv_iinc (v := (x2_3 + (1 : Int32))) (lv' := [(2, .int (x2_3 + (1 : Int32))), (6, .int (M2 13 0 x5_6.toNatClampNeg)), (0, .ref (ad 12 0)), (1, .ref (ad 2 k1)), (3, .int x3_4), (4, .int x4_5), (5, .int x5_6)]) hx hb dX5_practiseIn_41 hl (k := 3) rfl rfl (by decide) rfl (fun ls hl => ?_)
          refine lv_goto (tgt := 100) hx hb dX5_practiseIn_44 (by decide) ?_
          refine lv_iinc (v := (x5_6 + (1 : Int32))) (lv' := [(5, .int (x5_6 + (1 : Int32))), (2, .int (x2_3 + (1 : Int32))), (6, .int (M2 13 0 x5_6.toNatClampNeg)), (0, .ref (ad 12 0)), (1, .ref (ad 2 k1)), (3, .int x3_4), (4, .int x4_5)]) hx hb dX5_practiseIn_100 hl (k := 6) rfl rfl (by decide) rfl (fun ls hl => ?_)
          refine lv_goto (tgt := 11) hx hb dX5_practiseIn_103 (by decide) ?_
          exact ihn1 _ _ _ _ _ _ _ _ hw hP hS (lv_sub hl [3, 4, 1, 5, 6, 0] rfl)
  exact hlX5_practiseIn_L11 n24 _ _ _ _ _ _ _ _ hw hP hS (lv_sub hl [4, 5, 3, 2, 1, 0] rfl)
abbrev rmX6_clear : Room := { frames := 0, cells := 0, slots := 0, locals := 0 }
theorem eX6_clear : yX6_clear.cls = RX6 ∧ yX6_clear.cls ≠ "java/lang/invoke/MethodHandle" ∧ yX6_clear.cls ≠ "java/lang/invoke/VarHandle" ∧ (parseMethodDescriptor yX6_clear.desc).map (fun d => d.parameters.length) = some 0 := by decide +kernel
theorem iX6_clear_X6 : ∀ w ∈ wsX60, w ∈ wsX6_clear := fun _ h => List.mem_cons_of_mem _ (List.mem_append_right _ (h))
theorem mX6_clear_1 : Cond.fieldLink RX6 18 "PracticeSheets$Word" "length" "I" ∈ wsX6_clear := List.mem_of_getElem? (i := 1) rfl
theorem mX6_clear_2 : Cond.fieldLink RX6 22 "PracticeSheets$Word" "partCount" "I" ∈ wsX6_clear := List.mem_of_getElem? (i := 2) rfl
set_option maxHeartbeats 4000000 in
set_option maxRecDepth 100000 in
theorem qX6_clear (l : Launch) (D : va_G) (E : Nat → ClassId) (ad : Nat → Nat → Nat) (L : List (Nat × Nat)) (A : Nat → Prop) (hF : gF E ad L A) (hLx : gLx L) (M0 : gW) (k0 : Nat) (hk0 : k0 < gN 7) (K : gW → Prop) (hw : wX6_clear M0 k0 K) : Met l yX6_clear wsX6_clear rmX6_clear (va_Pc [.ref (ad 7 k0)] (gPre D E ad L M0)) (gQv D E ad L A K) 0 0 A := by
  refine Met.ofW (cc := cX6_clear) (maxL := 1) (ret := none) (by decide) rfl ?_
  intro p e s m args below meth c s₁ B hml hv
  obtain ⟨rfl, hP, hK, hN⟩ := hv
  have hx := B.exec
  have hb := B.bytes
  have hr := B.returns
  have hts := atoms_spec (ws := wsX6_clear) B.pre
  have hown : s.vm.findClass RX6 = some m.cls := findClass_of_methodNamed B.named
  have hlocks := B.notSynchronized
  have S : CallFix p m c cX6_clear 1 s ([.ref (ad 7 k0)] : List Value).toArray wsX6_clear RX6 := ⟨hx, hb, hml, hown, hts⟩
  have hS : va_S A s.heap s.heap [] := va_S.rf
  have hl := lv_entry ([.ref (ad 7 k0)]) (n := 1) (Nat.le_of_ble_eq_true rfl)
  rw [lg_entry_eq]
  generalize (lg_sl ([.ref (ad 7 k0)]) ++ List.replicate (1 - (lg_sl ([.ref (ad 7 k0)])).length) Slot.unset).toArray = ls at hl ⊢
  have hl : lv_has ls 1 [(0, .ref (ad 7 k0))] := hl
  refine lv_aload_n hx hb dX6_clear_0 rfl (lv_at hl 0 rfl) ?_
  refine lv_iconst (v := (0 : Int32)) hx hb dX6_clear_1 (by decide) ?_
  refine g_put hx hb hF hts hown hK hP hS (hLx.h (f := 7) hk0) (gC7 _ _ _ _) gcl6 iX6_clear_X6 tyX6 tyX6_ok nmX6 2 (by decide) mX6_clear_1 rfl rfl rfl rfl (Nat.lt_of_lt_of_eq (by decide : 2 < 4) rfl) rfl dX6_clear_2 (fun M1 e2 H locs hP hS => ?_)
  have hw := hw M1 e2
  refine lv_aload_n hx hb dX6_clear_5 rfl (lv_at hl 0 rfl) ?_
  refine lv_iconst (v := (0 : Int32)) hx hb dX6_clear_6 (by decide) ?_
  refine g_put hx hb hF hts hown hK hP hS (hLx.h (f := 7) hk0) (gC7 _ _ _ _) gcl6 iX6_clear_X6 tyX6 tyX6_ok nmX6 3 (by decide) mX6_clear_2 rfl rfl rfl rfl (Nat.lt_of_lt_of_eq (by decide : 3 < 4) rfl) rfl dX6_clear_7 (fun M3 e4 H locs hP hS => ?_)
  have hw := hw M3 e4
  exact g_vret hx hb hr hlocks hw hP hS dX6_clear_10
abbrev rmX6_has : Room := { frames := 0, cells := 0, slots := 0, locals := 0 }
theorem eX6_has : yX6_has.cls = RX6 ∧ yX6_has.cls ≠ "java/lang/invoke/MethodHandle" ∧ yX6_has.cls ≠ "java/lang/invoke/VarHandle" ∧ (parseMethodDescriptor yX6_has.desc).map (fun d => d.parameters.length) = some 1 := by decide +kernel
theorem iX6_has_X6 : ∀ w ∈ wsX60, w ∈ wsX6_has := fun _ h => List.mem_cons_of_mem _ (List.mem_append_right _ (h))
theorem mX6_has_1 : Cond.fieldLink RX6 22 "PracticeSheets$Word" "partCount" "I" ∈ wsX6_has := List.mem_of_getElem? (i := 1) rfl
theorem mX6_has_2 : Cond.fieldLink RX6 15 "PracticeSheets$Word" "parts" "[I" ∈ wsX6_has := List.mem_of_getElem? (i := 2) rfl
set_option maxHeartbeats 4000000 in
set_option maxRecDepth 100000 in
theorem qX6_has (l : Launch) (D : va_G) (E : Nat → ClassId) (ad : Nat → Nat → Nat) (L : List (Nat × Nat)) (A : Nat → Prop) (hF : gF E ad L A) (hLx : gLx L) (M0 : gW) (k0 : Nat) (a1 : Int32) (hk0 : k0 < gN 7) (K : Int32 → gW → Prop) (hw : wX6_has M0 k0 a1 K) : Met l yX6_has wsX6_has rmX6_has (va_Pc [.ref (ad 7 k0), .int a1] (gPre D E ad L M0)) (gQi D E ad L A K) 0 0 A := by
  refine Met.ofW (cc := cX6_has) (maxL := 3) (ret := (some .boolean)) (by decide) rfl ?_
  intro p e s m args below meth c s₁ B hml hv
  obtain ⟨rfl, hP, hK, hN⟩ := hv
  have hx := B.exec
  have hb := B.bytes
  have hr := B.returns
  have hts := atoms_spec (ws := wsX6_has) B.pre
  have hown : s.vm.findClass RX6 = some m.cls := findClass_of_methodNamed B.named
  have hlocks := B.notSynchronized
  have S : CallFix p m c cX6_has 3 s ([.ref (ad 7 k0), .int a1] : List Value).toArray wsX6_has RX6 := ⟨hx, hb, hml, hown, hts⟩
  have hS : va_S A s.heap s.heap [] := va_S.rf
  have hl := lv_entry ([.ref (ad 7 k0), .int a1]) (n := 3) (Nat.le_of_ble_eq_true rfl)
  rw [lg_entry_eq]
  generalize (lg_sl ([.ref (ad 7 k0), .int a1]) ++ List.replicate (3 - (lg_sl ([.ref (ad 7 k0), .int a1])).length) Slot.unset).toArray = ls at hl ⊢
  have hl : lv_has ls 3 [(0, .ref (ad 7 k0)), (1, .int a1)] := hl
  refine lv_iconst (v := (0 : Int32)) hx hb dX6_has_0 (by decide) ?_
  refine lv_istore_n (lv' := [(2, .int (0 : Int32)), (0, .ref (ad 7 k0)), (1, .int a1)]) hx hb dX6_has_1 rfl hl (by decide) rfl (fun ls hl => ?_)
  obtain ⟨n9, hw⟩ := hw
  have hxX6_has_L2_0 : ∀ (M7 : gW) (x2_8 : Int32) (H : Heap) (locs : List Loc) (ls : Array Slot), (K (0 : Int32) M7) → va_P D vwCl (gL E ad L M7) H → va_S A s.heap H locs → lv_has ls 3 [(0, .ref (ad 7 k0)), (1, .int a1), (2, .int x2_8)] → W p l e (headSpec wsX6_has rmX6_has).room s m (([.ref (ad 7 k0), .int a1] : List Value).toArray) below meth c H locs 0 0 (MQ below (gQi D E ad L A K) ([.ref (ad 7 k0), .int a1] : List Value).toArray s 0 0 A) (F0 m 28 ls []) := by
    intro M7 x2_8 H locs ls hw hP hS hl
    refine lv_iconst (v := (0 : Int32)) hx hb dX6_has_28 (by decide) ?_
    exact g_zret hx hb hr hlocks (by decide) hw hP hS dX6_has_29
  have hlX6_has_L2 : ∀ (n1 : Nat) (M2 : gW) (x2_3 : Int32) (H : Heap) (locs : List Loc) (ls : Array Slot), wX6_has_L2 k0 a1 K (fun M7 x2_8 => (K (0 : Int32) M7)) n1 M2 x2_3 → va_P D vwCl (gL E ad L M2) H → va_S A s.heap H locs → lv_has ls 3 [(0, .ref (ad 7 k0)), (1, .int a1), (2, .int x2_3)] → W p l e (headSpec wsX6_has rmX6_has).room s m (([.ref (ad 7 k0), .int a1] : List Value).toArray) below meth c H locs 0 0 (MQ below (gQi D E ad L A K) ([.ref (ad 7 k0), .int a1] : List Value).toArray s 0 0 A) (F0 m 2 ls []) := by
    intro n1
    induction n1 with
    | zero => intro M2 x2_3 H locs ls hw; exact False.elim hw
    | succ n1 ihn1 =>
      intro M2 x2_3 H locs ls hw hP hS hl
      refine lv_iload_n hx hb dX6_has_2 rfl (lv_at hl 2 rfl) ?_
      refine lv_aload_n hx hb dX6_has_3 rfl (lv_at hl 0 rfl) ?_
      refine g_get (v := .int (M2 7 k0 3)) hx hb hts hown hK hP (hLx.h (f := 7) hk0) (gC7 _ _ _ _) gcl6 iX6_has_X6 3 (by decide) mX6_has_1 rfl rfl dX6_has_4 ?_
      refine lv_icmp_ge (tgt := 28) hx hb dX6_has_7 (by decide) (fun c4 => ?_) (fun c4 => ?_)
      · have hw := hw.1 c4
        exact hxX6_has_L2_0 _ _ _ _ _ hw hP hS (lv_sub hl [0, 1, 2] rfl)
      · have hw := hw.2 c4
        refine lv_aload_n hx hb dX6_has_10 rfl (lv_at hl 0 rfl) ?_
        refine g_get (v := .ref (ad 9 k0)) hx hb hts hown hK hP (hLx.h (f := 7) hk0) (gC7 _ _ _ _) gcl6 iX6_has_X6 1 (by decide) mX6_has_2 rfl rfl dX6_has_11 ?_
        refine lv_iload_n hx hb dX6_has_14 rfl (lv_at hl 2 rfl) ?_
        have hb5 := hw.1
        have hw := hw.2
        refine g_iald hx hb hK hP (hLx.h (f := 9) hk0) (gC9 _ _ _ _) hb5 dX6_has_15 ?_
        refine lv_iload_n hx hb dX6_has_16 rfl (lv_at hl 1 rfl) ?_
        refine lv_icmp_ne (tgt := 22) hx hb dX6_has_17 (by decide) (fun c6 => ?_) (fun c6 => ?_)
        · have hw := hw.2 c6
          refine lv_iinc (v := (x2_3 + (1 : Int32))) (lv' := [(2, .int (x2_3 + (1 : Int32))), (0, .ref (ad 7 k0)), (1, .int a1)]) hx hb dX6_has_22 hl (k := 2) rfl rfl (by decide) rfl (fun ls hl => ?_)
          refine lv_goto (tgt := 2) hx hb dX6_has_25 (by decide) ?_
          exact ihn1 _ _ _ _ _ hw hP hS (lv_sub hl [1, 2, 0] rfl)
        · have hw := hw.1 c6
          refine lv_iconst (v := (1 : Int32)) hx hb dX6_has_20 (by decide) ?_
          exact g_zret hx hb hr hlocks (by decide) hw hP hS dX6_has_21
  exact hlX6_has_L2 n9 _ _ _ _ _ hw hP hS (lv_sub hl [1, 2, 0] rfl)
abbrev rmX6_addPart : Room := { frames := 1, cells := 0, slots := 0, locals := 22 }
theorem eX6_addPart : yX6_addPart.cls = RX6 ∧ yX6_addPart.cls ≠ "java/lang/invoke/MethodHandle" ∧ yX6_addPart.cls ≠ "java/lang/invoke/VarHandle" ∧ (parseMethodDescriptor yX6_addPart.desc).map (fun d => d.parameters.length) = some 1 := by decide +kernel
theorem iX6_addPart_X6 : ∀ w ∈ wsX60, w ∈ wsX6_addPart := fun _ h => List.mem_cons_of_mem _ (List.mem_append_right _ (h))
theorem mX6_addPart_1 : Cond.fieldLink RX6 22 "PracticeSheets$Word" "partCount" "I" ∈ wsX6_addPart := List.mem_of_getElem? (i := 1) rfl
theorem mX6_addPart_2 : Cond.fieldLink RX6 15 "PracticeSheets$Word" "parts" "[I" ∈ wsX6_addPart := List.mem_of_getElem? (i := 2) rfl
set_option maxHeartbeats 4000000 in
set_option maxRecDepth 100000 in
theorem qX6_addPart (l : Launch) (D : va_G) (E : Nat → ClassId) (ad : Nat → Nat → Nat) (L : List (Nat × Nat)) (A : Nat → Prop) (hF : gF E ad L A) (hLx : gLx L) (M0 : gW) (k0 : Nat) (a1 : Int32) (hk0 : k0 < gN 7) (K : gW → Prop) (hw : wX6_addPart M0 k0 a1 K) : Met l yX6_addPart wsX6_addPart rmX6_addPart (va_Pc [.ref (ad 7 k0), .int a1] (gPre D E ad L M0)) (gQv D E ad L A K) 0 0 A := by
  refine Met.ofW (cc := cX6_addPart) (maxL := 2) (ret := none) (by decide) rfl ?_
  intro p e s m args below meth c s₁ B hml hv
  obtain ⟨rfl, hP, hK, hN⟩ := hv
  have hx := B.exec
  have hb := B.bytes
  have hr := B.returns
  have hts := atoms_spec (ws := wsX6_addPart) B.pre
  have hown : s.vm.findClass RX6 = some m.cls := findClass_of_methodNamed B.named
  have hlocks := B.notSynchronized
  have S : CallFix p m c cX6_addPart 2 s ([.ref (ad 7 k0), .int a1] : List Value).toArray wsX6_addPart RX6 := ⟨hx, hb, hml, hown, hts⟩
  have hS : va_S A s.heap s.heap [] := va_S.rf
  have hl := lv_entry ([.ref (ad 7 k0), .int a1]) (n := 2) (Nat.le_of_ble_eq_true rfl)
  rw [lg_entry_eq]
  generalize (lg_sl ([.ref (ad 7 k0), .int a1]) ++ List.replicate (2 - (lg_sl ([.ref (ad 7 k0), .int a1])).length) Slot.unset).toArray = ls at hl ⊢
  have hl : lv_has ls 2 [(0, .ref (ad 7 k0)), (1, .int a1)] := hl
  refine lv_aload_n hx hb dX6_addPart_0 rfl (lv_at hl 0 rfl) ?_
  refine g_get (v := .int (M0 7 k0 3)) hx hb hts hown hK hP (hLx.h (f := 7) hk0) (gC7 _ _ _ _) gcl6 iX6_addPart_X6 3 (by decide) mX6_addPart_1 rfl rfl dX6_addPart_1 ?_
  refine lv_bipush (v := (29 : Int32)) hx hb dX6_addPart_4 (by decide) ?_
  refine lv_icmp_ge (tgt := 37) hx hb dX6_addPart_6 (by decide) (fun c1 => ?_) (fun c1 => ?_)
  · have hw := hw.1 c1
    exact g_vret hx hb hr hlocks hw hP hS dX6_addPart_37
  · have hw := hw.2 c1
    refine lv_aload_n hx hb dX6_addPart_9 rfl (lv_at hl 0 rfl) ?_
    refine lv_iload_n hx hb dX6_addPart_10 rfl (lv_at hl 1 rfl) ?_
    refine g_Vi (As := [.int a1]) (rest := []) S hK hN hP hS (qX6_has l D E ad L A hF hLx M0 k0 a1 hk0 _ hw) (cwV 1 hts gX6_addPart_X6_has rfl rfl rfl eX6_has ⟨Nat.le_of_ble_eq_true rfl, Nat.le_of_ble_eq_true rfl⟩) (hLx.h (f := 7) hk0) (gC7 _ _ _ _) gcl6 rfl rfl rfl hl.1 (Nat.le_of_ble_eq_true rfl) ⟨Nat.zero_le _, Nat.zero_le _⟩ dX6_addPart_11 (fun r3 M2 H locs hw hP hS => ?_)
    refine lv_if_ne (tgt := 37) hx hb dX6_addPart_14 (by decide) (fun c4 => ?_) (fun c4 => ?_)
    · have hw := hw.2 c4
      exact g_vret hx hb hr hlocks hw hP hS dX6_addPart_37
    · have hw := hw.1 c4
      refine lv_aload_n hx hb dX6_addPart_17 rfl (lv_at hl 0 rfl) ?_
      refine g_get (v := .ref (ad 9 k0)) hx hb hts hown hK hP (hLx.h (f := 7) hk0) (gC7 _ _ _ _) gcl6 iX6_addPart_X6 1 (by decide) mX6_addPart_2 rfl rfl dX6_addPart_18 ?_
      refine lv_aload_n hx hb dX6_addPart_21 rfl (lv_at hl 0 rfl) ?_
      refine g_get (v := .int (M2 7 k0 3)) hx hb hts hown hK hP (hLx.h (f := 7) hk0) (gC7 _ _ _ _) gcl6 iX6_addPart_X6 3 (by decide) mX6_addPart_1 rfl rfl dX6_addPart_22 ?_
      refine lv_iload_n hx hb dX6_addPart_25 rfl (lv_at hl 1 rfl) ?_
      have hb5 := hw.1
      have hw := hw.2
      refine g_iast hx hb hF hK hP hS (hLx.h (f := 9) hk0) (fun r => gC9 _ _ _ r) hb5 dX6_addPart_26 (fun M6 e7 H locs hP hS => ?_)
      have hw := hw M6 e7
      refine lv_aload_n hx hb dX6_addPart_27 rfl (lv_at hl 0 rfl) ?_
      refine lv_dup hx hb dX6_addPart_28 rfl ?_
      refine g_get (v := .int (M6 7 k0 3)) hx hb hts hown hK hP (hLx.h (f := 7) hk0) (gC7 _ _ _ _) gcl6 iX6_addPart_X6 3 (by decide) mX6_addPart_1 rfl rfl dX6_addPart_29 ?_
      refine lv_iconst (v := (1 : Int32)) hx hb dX6_addPart_32 (by decide) ?_
      refine lv_iadd hx hb dX6_addPart_33 ?_
      refine g_put hx hb hF hts hown hK hP hS (hLx.h (f := 7) hk0) (gC7 _ _ _ _) gcl6 iX6_addPart_X6 tyX6 tyX6_ok nmX6 3 (by decide) mX6_addPart_1 rfl rfl rfl rfl (Nat.lt_of_lt_of_eq (by decide : 3 < 4) rfl) rfl dX6_addPart_34 (fun M8 e9 H locs hP hS => ?_)
      have hw := hw M8 e9
      exact g_vret hx hb hr hlocks hw hP hS dX6_addPart_37
abbrev rmX6_append : Room := { frames := 2, cells := 0, slots := 0, locals := 43 }
theorem eX6_append : yX6_append.cls = RX6 ∧ yX6_append.cls ≠ "java/lang/invoke/MethodHandle" ∧ yX6_append.cls ≠ "java/lang/invoke/VarHandle" ∧ (parseMethodDescriptor yX6_append.desc).map (fun d => d.parameters.length) = some 1 := by decide +kernel
theorem iX6_append_X6 : ∀ w ∈ wsX60, w ∈ wsX6_append := fun _ h => List.mem_cons_of_mem _ (List.mem_append_right _ (h))
theorem mX6_append_1 : Cond.fieldLink RX6 18 "PracticeSheets$Word" "length" "I" ∈ wsX6_append := List.mem_of_getElem? (i := 1) rfl
theorem mX6_append_2 : Cond.fieldLink RX6 9 "PracticeSheets$Word" "letters" "[I" ∈ wsX6_append := List.mem_of_getElem? (i := 2) rfl
theorem mX6_append_15 : Cond.initialized RX8 ∈ wsX6_append := List.mem_of_getElem? (i := 15) rfl
theorem mX6_append_14 : Cond.static yX8_joinPart ∈ wsX6_append := List.mem_of_getElem? (i := 14) rfl
set_option maxHeartbeats 4000000 in
set_option maxRecDepth 100000 in
theorem qX6_append (l : Launch) (D : va_G) (E : Nat → ClassId) (ad : Nat → Nat → Nat) (L : List (Nat × Nat)) (A : Nat → Prop) (hF : gF E ad L A) (hLx : gLx L) (M0 : gW) (k0 : Nat) (a1 : Int32) (hk0 : k0 < gN 7) (K : gW → Prop) (hw : wX6_append M0 k0 a1 K) : Met l yX6_append wsX6_append rmX6_append (va_Pc [.ref (ad 7 k0), .int a1] (gPre D E ad L M0)) (gQv D E ad L A K) 0 0 A := by
  refine Met.ofW (cc := cX6_append) (maxL := 2) (ret := none) (by decide) rfl ?_
  intro p e s m args below meth c s₁ B hml hv
  obtain ⟨rfl, hP, hK, hN⟩ := hv
  have hx := B.exec
  have hb := B.bytes
  have hr := B.returns
  have hts := atoms_spec (ws := wsX6_append) B.pre
  have hown : s.vm.findClass RX6 = some m.cls := findClass_of_methodNamed B.named
  have hlocks := B.notSynchronized
  have S : CallFix p m c cX6_append 2 s ([.ref (ad 7 k0), .int a1] : List Value).toArray wsX6_append RX6 := ⟨hx, hb, hml, hown, hts⟩
  have hS : va_S A s.heap s.heap [] := va_S.rf
  have hl := lv_entry ([.ref (ad 7 k0), .int a1]) (n := 2) (Nat.le_of_ble_eq_true rfl)
  rw [lg_entry_eq]
  generalize (lg_sl ([.ref (ad 7 k0), .int a1]) ++ List.replicate (2 - (lg_sl ([.ref (ad 7 k0), .int a1])).length) Slot.unset).toArray = ls at hl ⊢
  have hl : lv_has ls 2 [(0, .ref (ad 7 k0)), (1, .int a1)] := hl
  refine lv_aload_n hx hb dX6_append_0 rfl (lv_at hl 0 rfl) ?_
  refine g_get (v := .int (M0 7 k0 2)) hx hb hts hown hK hP (hLx.h (f := 7) hk0) (gC7 _ _ _ _) gcl6 iX6_append_X6 2 (by decide) mX6_append_1 rfl rfl dX6_append_1 ?_
  refine lv_bipush (v := (15 : Int32)) hx hb dX6_append_4 (by decide) ?_
  refine lv_icmp_lt (tgt := 10) hx hb dX6_append_6 (by decide) (fun c1 => ?_) (fun c1 => ?_)
  · have hw := hw.1 c1
    refine lv_aload_n hx hb dX6_append_10 rfl (lv_at hl 0 rfl) ?_
    refine lv_iload_n hx hb dX6_append_11 rfl (lv_at hl 1 rfl) ?_
    refine g_Vv (As := [.int a1]) (rest := []) S hK hN hP hS (qX6_addPart l D E ad L A hF hLx M0 k0 a1 hk0 _ hw) (cwV 1 hts gX6_append_X6_addPart rfl rfl rfl eX6_addPart ⟨Nat.le_of_ble_eq_true rfl, Nat.le_of_ble_eq_true rfl⟩) (hLx.h (f := 7) hk0) (gC7 _ _ _ _) gcl6 rfl rfl rfl hl.1 (Nat.le_of_ble_eq_true rfl) ⟨Nat.zero_le _, Nat.zero_le _⟩ dX6_append_12 (fun M2 H locs hw hP hS => ?_)
    refine lv_aload_n hx hb dX6_append_15 rfl (lv_at hl 0 rfl) ?_
    refine g_get (v := .int (M2 7 k0 2)) hx hb hts hown hK hP (hLx.h (f := 7) hk0) (gC7 _ _ _ _) gcl6 iX6_append_X6 2 (by decide) mX6_append_1 rfl rfl dX6_append_16 ?_
    refine lv_if_le (tgt := 41) hx hb dX6_append_19 (by decide) (fun c3 => ?_) (fun c3 => ?_)
    · have hw := hw.1 c3
      refine lv_aload_n hx hb dX6_append_41 rfl (lv_at hl 0 rfl) ?_
      refine g_get (v := .ref (ad 8 k0)) hx hb hts hown hK hP (hLx.h (f := 7) hk0) (gC7 _ _ _ _) gcl6 iX6_append_X6 0 (by decide) mX6_append_2 rfl rfl dX6_append_42 ?_
      refine lv_aload_n hx hb dX6_append_45 rfl (lv_at hl 0 rfl) ?_
      refine g_get (v := .int (M2 7 k0 2)) hx hb hts hown hK hP (hLx.h (f := 7) hk0) (gC7 _ _ _ _) gcl6 iX6_append_X6 2 (by decide) mX6_append_1 rfl rfl dX6_append_46 ?_
      refine lv_iload_n hx hb dX6_append_49 rfl (lv_at hl 1 rfl) ?_
      have hb4 := hw.1
      have hw := hw.2
      refine g_iast hx hb hF hK hP hS (hLx.h (f := 8) hk0) (fun r => gC8 _ _ _ r) hb4 dX6_append_50 (fun M5 e6 H locs hP hS => ?_)
      have hw := hw M5 e6
      refine lv_aload_n hx hb dX6_append_51 rfl (lv_at hl 0 rfl) ?_
      refine lv_dup hx hb dX6_append_52 rfl ?_
      refine g_get (v := .int (M5 7 k0 2)) hx hb hts hown hK hP (hLx.h (f := 7) hk0) (gC7 _ _ _ _) gcl6 iX6_append_X6 2 (by decide) mX6_append_1 rfl rfl dX6_append_53 ?_
      refine lv_iconst (v := (1 : Int32)) hx hb dX6_append_56 (by decide) ?_
      refine lv_iadd hx hb dX6_append_57 ?_
      refine g_put hx hb hF hts hown hK hP hS (hLx.h (f := 7) hk0) (gC7 _ _ _ _) gcl6 iX6_append_X6 tyX6 tyX6_ok nmX6 2 (by decide) mX6_append_1 rfl rfl rfl rfl (Nat.lt_of_lt_of_eq (by decide : 2 < 4) rfl) rfl dX6_append_58 (fun M7 e8 H locs hP hS => ?_)
      have hw := hw M7 e8
      exact g_vret hx hb hr hlocks hw hP hS dX6_append_61
    · have hw := hw.2 c3
      refine lv_aload_n hx hb dX6_append_22 rfl (lv_at hl 0 rfl) ?_
      refine lv_aload_n hx hb dX6_append_23 rfl (lv_at hl 0 rfl) ?_
      refine g_get (v := .ref (ad 8 k0)) hx hb hts hown hK hP (hLx.h (f := 7) hk0) (gC7 _ _ _ _) gcl6 iX6_append_X6 0 (by decide) mX6_append_2 rfl rfl dX6_append_24 ?_
      refine lv_aload_n hx hb dX6_append_27 rfl (lv_at hl 0 rfl) ?_
      refine g_get (v := .int (M2 7 k0 2)) hx hb hts hown hK hP (hLx.h (f := 7) hk0) (gC7 _ _ _ _) gcl6 iX6_append_X6 2 (by decide) mX6_append_1 rfl rfl dX6_append_28 ?_
      refine lv_iconst (v := (1 : Int32)) hx hb dX6_append_31 (by decide) ?_
      refine lv_isub hx hb dX6_append_32 ?_
      have hb9 := hw.1
      have hw := hw.2
      refine g_iald hx hb hK hP (hLx.h (f := 8) hk0) (gC8 _ _ _ _) hb9 dX6_append_33 ?_
      refine lv_iload_n hx hb dX6_append_34 rfl (lv_at hl 1 rfl) ?_
      refine g_SNi (As := [.int (M2 8 k0 ((M2 7 k0 2) - (1 : Int32)).toNatClampNeg), .int a1]) (rest := [.ref (ad 7 k0)]) S hK hN hP hS (qX8_joinPart l D E ad L A hF hLx M2 (M2 8 k0 ((M2 7 k0 2) - (1 : Int32)).toNatClampNeg) a1  _ hw) ⟨va_cnB 2 hts gX6_append_X8_joinPart_n29 rfl rfl rfl (hN.2 4 _ rfl) (hts _ mX6_append_15) eX8_joinPart.2 ⟨Nat.le_of_ble_eq_true rfl, Nat.le_of_ble_eq_true rfl⟩, hts _ mX6_append_14, trivial⟩ rfl rfl hl.1 (Nat.le_of_ble_eq_true rfl) ⟨Nat.zero_le _, Nat.zero_le _⟩ dX6_append_35 (fun r11 M10 H locs hw hP hS => ?_)
      refine g_Vv (As := [.int r11]) (rest := []) S hK hN hP hS (qX6_addPart l D E ad L A hF hLx M10 k0 r11 hk0 _ hw) (cwV 1 hts gX6_append_X6_addPart rfl rfl rfl eX6_addPart ⟨Nat.le_of_ble_eq_true rfl, Nat.le_of_ble_eq_true rfl⟩) (hLx.h (f := 7) hk0) (gC7 _ _ _ _) gcl6 rfl rfl rfl hl.1 (Nat.le_of_ble_eq_true rfl) ⟨Nat.zero_le _, Nat.zero_le _⟩ dX6_append_38 (fun M12 H locs hw hP hS => ?_)
      refine lv_aload_n hx hb dX6_append_41 rfl (lv_at hl 0 rfl) ?_
      refine g_get (v := .ref (ad 8 k0)) hx hb hts hown hK hP (hLx.h (f := 7) hk0) (gC7 _ _ _ _) gcl6 iX6_append_X6 0 (by decide) mX6_append_2 rfl rfl dX6_append_42 ?_
      refine lv_aload_n hx hb dX6_append_45 rfl (lv_at hl 0 rfl) ?_
      refine g_get (v := .int (M12 7 k0 2)) hx hb hts hown hK hP (hLx.h (f := 7) hk0) (gC7 _ _ _ _) gcl6 iX6_append_X6 2 (by decide) mX6_append_1 rfl rfl dX6_append_46 ?_
      refine lv_iload_n hx hb dX6_append_49 rfl (lv_at hl 1 rfl) ?_
      have hb13 := hw.1
      have hw := hw.2
      refine g_iast hx hb hF hK hP hS (hLx.h (f := 8) hk0) (fun r => gC8 _ _ _ r) hb13 dX6_append_50 (fun M14 e15 H locs hP hS => ?_)
      have hw := hw M14 e15
      refine lv_aload_n hx hb dX6_append_51 rfl (lv_at hl 0 rfl) ?_
      refine lv_dup hx hb dX6_append_52 rfl ?_
      refine g_get (v := .int (M14 7 k0 2)) hx hb hts hown hK hP (hLx.h (f := 7) hk0) (gC7 _ _ _ _) gcl6 iX6_append_X6 2 (by decide) mX6_append_1 rfl rfl dX6_append_53 ?_
      refine lv_iconst (v := (1 : Int32)) hx hb dX6_append_56 (by decide) ?_
      refine lv_iadd hx hb dX6_append_57 ?_
      refine g_put hx hb hF hts hown hK hP hS (hLx.h (f := 7) hk0) (gC7 _ _ _ _) gcl6 iX6_append_X6 tyX6 tyX6_ok nmX6 2 (by decide) mX6_append_1 rfl rfl rfl rfl (Nat.lt_of_lt_of_eq (by decide : 2 < 4) rfl) rfl dX6_append_58 (fun M16 e17 H locs hP hS => ?_)
      have hw := hw M16 e17
      exact g_vret hx hb hr hlocks hw hP hS dX6_append_61
  · have hw := hw.2 c1
    exact g_vret hx hb hr hlocks hw hP hS dX6_append_9
abbrev rmX6_isSpelledAs : Room := { frames := 0, cells := 0, slots := 0, locals := 0 }
theorem eX6_isSpelledAs : yX6_isSpelledAs.cls = RX6 ∧ yX6_isSpelledAs.cls ≠ "java/lang/invoke/MethodHandle" ∧ yX6_isSpelledAs.cls ≠ "java/lang/invoke/VarHandle" ∧ (parseMethodDescriptor yX6_isSpelledAs.desc).map (fun d => d.parameters.length) = some 1 := by decide +kernel
theorem iX6_isSpelledAs_X6 : ∀ w ∈ wsX60, w ∈ wsX6_isSpelledAs := fun _ h => List.mem_cons_of_mem _ (List.mem_append_right _ (h))
theorem mX6_isSpelledAs_1 : Cond.fieldLink RX6 18 "PracticeSheets$Word" "length" "I" ∈ wsX6_isSpelledAs := List.mem_of_getElem? (i := 1) rfl
theorem mX6_isSpelledAs_2 : Cond.fieldLink RX6 9 "PracticeSheets$Word" "letters" "[I" ∈ wsX6_isSpelledAs := List.mem_of_getElem? (i := 2) rfl
set_option maxHeartbeats 4000000 in
set_option maxRecDepth 100000 in
theorem qX6_isSpelledAs (l : Launch) (D : va_G) (E : Nat → ClassId) (ad : Nat → Nat → Nat) (L : List (Nat × Nat)) (A : Nat → Prop) (hF : gF E ad L A) (hLx : gLx L) (M0 : gW) (k0 : Nat) (k1 : Nat) (hk0 : k0 < gN 7) (hk1 : k1 < gN 7) (K : Int32 → gW → Prop) (hw : wX6_isSpelledAs M0 k0 k1 K) : Met l yX6_isSpelledAs wsX6_isSpelledAs rmX6_isSpelledAs (va_Pc [.ref (ad 7 k0), .ref (ad 7 k1)] (gPre D E ad L M0)) (gQi D E ad L A K) 0 0 A := by
  refine Met.ofW (cc := cX6_isSpelledAs) (maxL := 3) (ret := (some .boolean)) (by decide) rfl ?_
  intro p e s m args below meth c s₁ B hml hv
  obtain ⟨rfl, hP, hK, hN⟩ := hv
  have hx := B.exec
  have hb := B.bytes
  have hr := B.returns
  have hts := atoms_spec (ws := wsX6_isSpelledAs) B.pre
  have hown : s.vm.findClass RX6 = some m.cls := findClass_of_methodNamed B.named
  have hlocks := B.notSynchronized
  have S : CallFix p m c cX6_isSpelledAs 3 s ([.ref (ad 7 k0), .ref (ad 7 k1)] : List Value).toArray wsX6_isSpelledAs RX6 := ⟨hx, hb, hml, hown, hts⟩
  have hS : va_S A s.heap s.heap [] := va_S.rf
  have hl := lv_entry ([.ref (ad 7 k0), .ref (ad 7 k1)]) (n := 3) (Nat.le_of_ble_eq_true rfl)
  rw [lg_entry_eq]
  generalize (lg_sl ([.ref (ad 7 k0), .ref (ad 7 k1)]) ++ List.replicate (3 - (lg_sl ([.ref (ad 7 k0), .ref (ad 7 k1)])).length) Slot.unset).toArray = ls at hl ⊢
  have hl : lv_has ls 3 [(0, .ref (ad 7 k0)), (1, .ref (ad 7 k1))] := hl
  refine lv_aload_n hx hb dX6_isSpelledAs_0 rfl (lv_at hl 0 rfl) ?_
  refine g_get (v := .int (M0 7 k0 2)) hx hb hts hown hK hP (hLx.h (f := 7) hk0) (gC7 _ _ _ _) gcl6 iX6_isSpelledAs_X6 2 (by decide) mX6_isSpelledAs_1 rfl rfl dX6_isSpelledAs_1 ?_
  refine lv_aload_n hx hb dX6_isSpelledAs_4 rfl (lv_at hl 1 rfl) ?_
  refine g_get (v := .int (M0 7 k1 2)) hx hb hts hown hK hP (hLx.h (f := 7) hk1) (gC7 _ _ _ _) gcl6 iX6_isSpelledAs_X6 2 (by decide) mX6_isSpelledAs_1 rfl rfl dX6_isSpelledAs_5 ?_
  refine lv_icmp_eq (tgt := 13) hx hb dX6_isSpelledAs_8 (by decide) (fun c1 => ?_) (fun c1 => ?_)
  · have hw := hw.1 c1
    refine lv_iconst (v := (0 : Int32)) hx hb dX6_isSpelledAs_13 (by decide) ?_
    refine lv_istore_n (lv' := [(2, .int (0 : Int32)), (0, .ref (ad 7 k0)), (1, .ref (ad 7 k1))]) hx hb dX6_isSpelledAs_14 rfl hl (by decide) rfl (fun ls hl => ?_)
    obtain ⟨n11, hw⟩ := hw
    have hxX6_isSpelledAs_L15_0 : ∀ (M9 : gW) (x2_10 : Int32) (H : Heap) (locs : List Loc) (ls : Array Slot), (K (1 : Int32) M9) → va_P D vwCl (gL E ad L M9) H → va_S A s.heap H locs → lv_has ls 3 [(0, .ref (ad 7 k0)), (1, .ref (ad 7 k1)), (2, .int x2_10)] → W p l e (headSpec wsX6_isSpelledAs rmX6_isSpelledAs).room s m (([.ref (ad 7 k0), .ref (ad 7 k1)] : List Value).toArray) below meth c H locs 0 0 (MQ below (gQi D E ad L A K) ([.ref (ad 7 k0), .ref (ad 7 k1)] : List Value).toArray s 0 0 A) (F0 m 46 ls []) := by
      intro M9 x2_10 H locs ls hw hP hS hl
      refine lv_iconst (v := (1 : Int32)) hx hb dX6_isSpelledAs_46 (by decide) ?_
      exact g_zret hx hb hr hlocks (by decide) hw hP hS dX6_isSpelledAs_47
    have hlX6_isSpelledAs_L15 : ∀ (n2 : Nat) (M3 : gW) (x2_4 : Int32) (H : Heap) (locs : List Loc) (ls : Array Slot), wX6_isSpelledAs_L15 k0 k1 K (fun M9 x2_10 => (K (1 : Int32) M9)) n2 M3 x2_4 → va_P D vwCl (gL E ad L M3) H → va_S A s.heap H locs → lv_has ls 3 [(0, .ref (ad 7 k0)), (1, .ref (ad 7 k1)), (2, .int x2_4)] → W p l e (headSpec wsX6_isSpelledAs rmX6_isSpelledAs).room s m (([.ref (ad 7 k0), .ref (ad 7 k1)] : List Value).toArray) below meth c H locs 0 0 (MQ below (gQi D E ad L A K) ([.ref (ad 7 k0), .ref (ad 7 k1)] : List Value).toArray s 0 0 A) (F0 m 15 ls []) := by
      intro n2
      induction n2 with
      | zero => intro M3 x2_4 H locs ls hw; exact False.elim hw
      | succ n2 ihn2 =>
        intro M3 x2_4 H locs ls hw hP hS hl
        refine lv_iload_n hx hb dX6_isSpelledAs_15 rfl (lv_at hl 2 rfl) ?_
        refine lv_aload_n hx hb dX6_isSpelledAs_16 rfl (lv_at hl 0 rfl) ?_
        refine g_get (v := .int (M3 7 k0 2)) hx hb hts hown hK hP (hLx.h (f := 7) hk0) (gC7 _ _ _ _) gcl6 iX6_isSpelledAs_X6 2 (by decide) mX6_isSpelledAs_1 rfl rfl dX6_isSpelledAs_17 ?_
        refine lv_icmp_ge (tgt := 46) hx hb dX6_isSpelledAs_20 (by decide) (fun c5 => ?_) (fun c5 => ?_)
        · have hw := hw.1 c5
          exact hxX6_isSpelledAs_L15_0 _ _ _ _ _ hw hP hS (lv_sub hl [0, 1, 2] rfl)
        · have hw := hw.2 c5
          refine lv_aload_n hx hb dX6_isSpelledAs_23 rfl (lv_at hl 0 rfl) ?_
          refine g_get (v := .ref (ad 8 k0)) hx hb hts hown hK hP (hLx.h (f := 7) hk0) (gC7 _ _ _ _) gcl6 iX6_isSpelledAs_X6 0 (by decide) mX6_isSpelledAs_2 rfl rfl dX6_isSpelledAs_24 ?_
          refine lv_iload_n hx hb dX6_isSpelledAs_27 rfl (lv_at hl 2 rfl) ?_
          have hb6 := hw.1
          have hw := hw.2
          refine g_iald hx hb hK hP (hLx.h (f := 8) hk0) (gC8 _ _ _ _) hb6 dX6_isSpelledAs_28 ?_
          refine lv_aload_n hx hb dX6_isSpelledAs_29 rfl (lv_at hl 1 rfl) ?_
          refine g_get (v := .ref (ad 8 k1)) hx hb hts hown hK hP (hLx.h (f := 7) hk1) (gC7 _ _ _ _) gcl6 iX6_isSpelledAs_X6 0 (by decide) mX6_isSpelledAs_2 rfl rfl dX6_isSpelledAs_30 ?_
          refine lv_iload_n hx hb dX6_isSpelledAs_33 rfl (lv_at hl 2 rfl) ?_
          have hb7 := hw.1
          have hw := hw.2
          refine g_iald hx hb hK hP (hLx.h (f := 8) hk1) (gC8 _ _ _ _) hb7 dX6_isSpelledAs_34 ?_
          refine lv_icmp_eq (tgt := 40) hx hb dX6_isSpelledAs_35 (by decide) (fun c8 => ?_) (fun c8 => ?_)
          · have hw := hw.1 c8
            refine lv_iinc (v := (x2_4 + (1 : Int32))) (lv' := [(2, .int (x2_4 + (1 : Int32))), (0, .ref (ad 7 k0)), (1, .ref (ad 7 k1))]) hx hb dX6_isSpelledAs_40 hl (k := 2) rfl rfl (by decide) rfl (fun ls hl => ?_)
            refine lv_goto (tgt := 15) hx hb dX6_isSpelledAs_43 (by decide) ?_
            exact ihn2 _ _ _ _ _ hw hP hS (lv_sub hl [1, 2, 0] rfl)
          · have hw := hw.2 c8
            refine lv_iconst (v := (0 : Int32)) hx hb dX6_isSpelledAs_38 (by decide) ?_
            exact g_zret hx hb hr hlocks (by decide) hw hP hS dX6_isSpelledAs_39
    exact hlX6_isSpelledAs_L15 n11 _ _ _ _ _ hw hP hS (lv_sub hl [1, 2, 0] rfl)
  · have hw := hw.2 c1
    refine lv_iconst (v := (0 : Int32)) hx hb dX6_isSpelledAs_11 (by decide) ?_
    exact g_zret hx hb hr hlocks (by decide) hw hP hS dX6_isSpelledAs_12
abbrev rmX7_take : Room := { frames := 2, cells := 0, slots := 0, locals := 39 }
theorem eX7_take : yX7_take.cls = RX7 ∧ yX7_take.cls ≠ "java/lang/invoke/MethodHandle" ∧ yX7_take.cls ≠ "java/lang/invoke/VarHandle" ∧ (parseMethodDescriptor yX7_take.desc).map (fun d => d.parameters.length) = some 1 := by decide +kernel
theorem iX7_take_X7 : ∀ w ∈ wsX70, w ∈ wsX7_take := fun _ h => List.mem_cons_of_mem _ (List.mem_append_left _ (List.mem_append_right _ (h)))
theorem mX7_take_1 : Cond.fieldLink RX7 18 "PracticeSheets$WordList" "size" "I" ∈ wsX7_take := List.mem_of_getElem? (i := 1) rfl
theorem mX7_take_2 : Cond.fieldLink RX7 11 "PracticeSheets$WordList" "words" "[LPracticeSheets$Word;" ∈ wsX7_take := List.mem_of_getElem? (i := 2) rfl
set_option maxHeartbeats 4000000 in
set_option maxRecDepth 100000 in
theorem qX7_take (l : Launch) (D : va_G) (E : Nat → ClassId) (ad : Nat → Nat → Nat) (L : List (Nat × Nat)) (A : Nat → Prop) (hF : gF E ad L A) (hLx : gLx L) (M0 : gW) (k0 : Nat) (k1 : Nat) (hk0 : k0 < gN 5) (hk1 : k1 < gN 7) (K : Int32 → gW → Prop) (hw : wX7_take M0 k0 k1 K) : Met l yX7_take wsX7_take rmX7_take (va_Pc [.ref (ad 5 k0), .ref (ad 7 k1)] (gPre D E ad L M0)) (gQi D E ad L A K) 0 0 A := by
  refine Met.ofW (cc := cX7_take) (maxL := 3) (ret := (some .boolean)) (by decide) rfl ?_
  intro p e s m args below meth c s₁ B hml hv
  obtain ⟨rfl, hP, hK, hN⟩ := hv
  have hx := B.exec
  have hb := B.bytes
  have hr := B.returns
  have hts := atoms_spec (ws := wsX7_take) B.pre
  have hown : s.vm.findClass RX7 = some m.cls := findClass_of_methodNamed B.named
  have hlocks := B.notSynchronized
  have S : CallFix p m c cX7_take 3 s ([.ref (ad 5 k0), .ref (ad 7 k1)] : List Value).toArray wsX7_take RX7 := ⟨hx, hb, hml, hown, hts⟩
  have hS : va_S A s.heap s.heap [] := va_S.rf
  have hl := lv_entry ([.ref (ad 5 k0), .ref (ad 7 k1)]) (n := 3) (Nat.le_of_ble_eq_true rfl)
  rw [lg_entry_eq]
  generalize (lg_sl ([.ref (ad 5 k0), .ref (ad 7 k1)]) ++ List.replicate (3 - (lg_sl ([.ref (ad 5 k0), .ref (ad 7 k1)])).length) Slot.unset).toArray = ls at hl ⊢
  have hl : lv_has ls 3 [(0, .ref (ad 5 k0)), (1, .ref (ad 7 k1))] := hl
  refine lv_iconst (v := (0 : Int32)) hx hb dX7_take_0 (by decide) ?_
  refine lv_istore_n (lv' := [(2, .int (0 : Int32)), (0, .ref (ad 5 k0)), (1, .ref (ad 7 k1))]) hx hb dX7_take_1 rfl hl (by decide) rfl (fun ls hl => ?_)
  obtain ⟨n16, hw⟩ := hw
  have hxX7_take_L2_0 : ∀ (M9 : gW) (x2_10 : Int32) (H : Heap) (locs : List Loc) (ls : Array Slot), (((M9 5 k0 1) < (20 : Int32) → ((vp_in (M9 5 k0 1) 20) ∧ (wX6_copyFrom M9 (20 * k0 + (M9 5 k0 1).toNatClampNeg) k1 (fun M13 => (∀ M14 : gW, M14 = gU M13 5 k0 (upd (M13 5 k0) 1 ((M13 5 k0 1) + (1 : Int32))) → (K (1 : Int32) M14)))))) ∧ (¬ ((M9 5 k0 1) < (20 : Int32)) → (K (0 : Int32) M9))) → va_P D vwCl (gL E ad L M9) H → va_S A s.heap H locs → lv_has ls 3 [(0, .ref (ad 5 k0)), (1, .ref (ad 7 k1)), (2, .int x2_10)] → W p l e (headSpec wsX7_take rmX7_take).room s m (([.ref (ad 5 k0), .ref (ad 7 k1)] : List Value).toArray) below meth c H locs 0 0 (MQ below (gQi D E ad L A K) ([.ref (ad 5 k0), .ref (ad 7 k1)] : List Value).toArray s 0 0 A) (F0 m 31 ls []) := by
    intro M9 x2_10 H locs ls hw hP hS hl
    refine lv_aload_n hx hb dX7_take_31 rfl (lv_at hl 0 rfl) ?_
    refine g_get (v := .int (M9 5 k0 1)) hx hb hts hown hK hP (hLx.h (f := 5) hk0) (gC5 _ _ _ _) gcl7 iX7_take_X7 1 (by decide) mX7_take_1 rfl rfl dX7_take_32 ?_
    refine lv_bipush (v := (20 : Int32)) hx hb dX7_take_35 (by decide) ?_
    refine lv_icmp_lt (tgt := 42) hx hb dX7_take_37 (by decide) (fun c11 => ?_) (fun c11 => ?_)
    · have hw := hw.1 c11
      refine lv_aload_n hx hb dX7_take_42 rfl (lv_at hl 0 rfl) ?_
      refine g_get (v := .ref (ad 6 k0)) hx hb hts hown hK hP (hLx.h (f := 5) hk0) (gC5 _ _ _ _) gcl7 iX7_take_X7 0 (by decide) mX7_take_2 rfl rfl dX7_take_43 ?_
      refine lv_aload_n hx hb dX7_take_46 rfl (lv_at hl 0 rfl) ?_
      refine g_get (v := .int (M9 5 k0 1)) hx hb hts hown hK hP (hLx.h (f := 5) hk0) (gC5 _ _ _ _) gcl7 iX7_take_X7 1 (by decide) mX7_take_1 rfl rfl dX7_take_47 ?_
      have hb12 := hw.1
      have hw := hw.2
      refine g_aldw hx hb hK hP (hLx.h (f := 6) hk0) hb12 dX7_take_50 ?_
      refine lv_aload_n hx hb dX7_take_51 rfl (lv_at hl 1 rfl) ?_
      refine g_Vv (As := [.ref (ad 7 k1)]) (rest := []) S hK hN hP hS (qX6_copyFrom l D E ad L A hF hLx M9 (20 * k0 + (M9 5 k0 1).toNatClampNeg) k1 (g_word hk0 hb12) hk1 _ hw) (cwV 1 hts gX7_take_X6_copyFrom rfl rfl rfl eX6_copyFrom ⟨Nat.le_of_ble_eq_true rfl, Nat.le_of_ble_eq_true rfl⟩) (hLx.h (f := 7) (g_word hk0 hb12)) (gC7 _ _ _ _) gcl6 rfl rfl rfl hl.1 (Nat.le_of_ble_eq_true rfl) ⟨Nat.zero_le _, Nat.zero_le _⟩ dX7_take_52 (fun M13 H locs hw hP hS => ?_)
      refine lv_aload_n hx hb dX7_take_55 rfl (lv_at hl 0 rfl) ?_
      refine lv_dup hx hb dX7_take_56 rfl ?_
      refine g_get (v := .int (M13 5 k0 1)) hx hb hts hown hK hP (hLx.h (f := 5) hk0) (gC5 _ _ _ _) gcl7 iX7_take_X7 1 (by decide) mX7_take_1 rfl rfl dX7_take_57 ?_
      refine lv_iconst (v := (1 : Int32)) hx hb dX7_take_60 (by decide) ?_
      refine lv_iadd hx hb dX7_take_61 ?_
      refine g_put hx hb hF hts hown hK hP hS (hLx.h (f := 5) hk0) (gC5 _ _ _ _) gcl7 iX7_take_X7 tyX7 tyX7_ok nmX7 1 (by decide) mX7_take_1 rfl rfl rfl rfl (Nat.lt_of_lt_of_eq (by decide : 1 < 2) rfl) rfl dX7_take_62 (fun M14 e15 H locs hP hS => ?_)
      have hw := hw M14 e15
      refine lv_iconst (v := (1 : Int32)) hx hb dX7_take_65 (by decide) ?_
      exact g_zret hx hb hr hlocks (by decide) hw hP hS dX7_take_66
    · have hw := hw.2 c11
      refine lv_iconst (v := (0 : Int32)) hx hb dX7_take_40 (by decide) ?_
      exact g_zret hx hb hr hlocks (by decide) hw hP hS dX7_take_41
  have hlX7_take_L2 : ∀ (n1 : Nat) (M2 : gW) (x2_3 : Int32) (H : Heap) (locs : List Loc) (ls : Array Slot), wX7_take_L2 k0 k1 K (fun M9 x2_10 => (((M9 5 k0 1) < (20 : Int32) → ((vp_in (M9 5 k0 1) 20) ∧ (wX6_copyFrom M9 (20 * k0 + (M9 5 k0 1).toNatClampNeg) k1 (fun M13 => (∀ M14 : gW, M14 = gU M13 5 k0 (upd (M13 5 k0) 1 ((M13 5 k0 1) + (1 : Int32))) → (K (1 : Int32) M14)))))) ∧ (¬ ((M9 5 k0 1) < (20 : Int32)) → (K (0 : Int32) M9)))) n1 M2 x2_3 → va_P D vwCl (gL E ad L M2) H → va_S A s.heap H locs → lv_has ls 3 [(0, .ref (ad 5 k0)), (1, .ref (ad 7 k1)), (2, .int x2_3)] → W p l e (headSpec wsX7_take rmX7_take).room s m (([.ref (ad 5 k0), .ref (ad 7 k1)] : List Value).toArray) below meth c H locs 0 0 (MQ below (gQi D E ad L A K) ([.ref (ad 5 k0), .ref (ad 7 k1)] : List Value).toArray s 0 0 A) (F0 m 2 ls []) := by
    intro n1
    induction n1 with
    | zero => intro M2 x2_3 H locs ls hw; exact False.elim hw
    | succ n1 ihn1 =>
      intro M2 x2_3 H locs ls hw hP hS hl
      refine lv_iload_n hx hb dX7_take_2 rfl (lv_at hl 2 rfl) ?_
      refine lv_aload_n hx hb dX7_take_3 rfl (lv_at hl 0 rfl) ?_
      refine g_get (v := .int (M2 5 k0 1)) hx hb hts hown hK hP (hLx.h (f := 5) hk0) (gC5 _ _ _ _) gcl7 iX7_take_X7 1 (by decide) mX7_take_1 rfl rfl dX7_take_4 ?_
      refine lv_icmp_ge (tgt := 31) hx hb dX7_take_7 (by decide) (fun c4 => ?_) (fun c4 => ?_)
      · have hw := hw.1 c4
        exact hxX7_take_L2_0 _ _ _ _ _ hw hP hS (lv_sub hl [0, 1, 2] rfl)
      · have hw := hw.2 c4
        refine lv_aload_n hx hb dX7_take_10 rfl (lv_at hl 0 rfl) ?_
        refine g_get (v := .ref (ad 6 k0)) hx hb hts hown hK hP (hLx.h (f := 5) hk0) (gC5 _ _ _ _) gcl7 iX7_take_X7 0 (by decide) mX7_take_2 rfl rfl dX7_take_11 ?_
        refine lv_iload_n hx hb dX7_take_14 rfl (lv_at hl 2 rfl) ?_
        have hb5 := hw.1
        have hw := hw.2
        refine g_aldw hx hb hK hP (hLx.h (f := 6) hk0) hb5 dX7_take_15 ?_
        refine lv_aload_n hx hb dX7_take_16 rfl (lv_at hl 1 rfl) ?_
        refine g_Vi (As := [.ref (ad 7 k1)]) (rest := []) S hK hN hP hS (qX6_isSpelledAs l D E ad L A hF hLx M2 (20 * k0 + x2_3.toNatClampNeg) k1 (g_word hk0 hb5) hk1 _ hw) (cwV 1 hts gX7_take_X6_isSpelledAs rfl rfl rfl eX6_isSpelledAs ⟨Nat.le_of_ble_eq_true rfl, Nat.le_of_ble_eq_true rfl⟩) (hLx.h (f := 7) (g_word hk0 hb5)) (gC7 _ _ _ _) gcl6 rfl rfl rfl hl.1 (Nat.le_of_ble_eq_true rfl) ⟨Nat.zero_le _, Nat.zero_le _⟩ dX7_take_17 (fun r7 M6 H locs hw hP hS => ?_)
        refine lv_if_eq (tgt := 25) hx hb dX7_take_20 (by decide) (fun c8 => ?_) (fun c8 => ?_)
        · have hw := hw.1 c8
          refine lv_iinc (v := (x2_3 + (1 : Int32))) (lv' := [(2, .int (x2_3 + (1 : Int32))), (0, .ref (ad 5 k0)), (1, .ref (ad 7 k1))]) hx hb dX7_take_25 hl (k := 2) rfl rfl (by decide) rfl (fun ls hl => ?_)
          refine lv_goto (tgt := 2) hx hb dX7_take_28 (by decide) ?_
          exact ihn1 _ _ _ _ _ hw hP hS (lv_sub hl [1, 2, 0] rfl)
        · have hw := hw.2 c8
          refine lv_iconst (v := (1 : Int32)) hx hb dX7_take_23 (by decide) ?_
          exact g_zret hx hb hr hlocks (by decide) hw hP hS dX7_take_24
  exact hlX7_take_L2 n16 _ _ _ _ _ hw hP hS (lv_sub hl [1, 2, 0] rfl)
abbrev rmX5_spellInto : Room := { frames := 3, cells := 0, slots := 0, locals := 64 }
theorem eX5_spellInto : yX5_spellInto.cls = RX5 ∧ yX5_spellInto.cls ≠ "java/lang/invoke/MethodHandle" ∧ yX5_spellInto.cls ≠ "java/lang/invoke/VarHandle" ∧ (parseMethodDescriptor yX5_spellInto.desc).map (fun d => d.parameters.length) = some 1 := by decide +kernel
theorem iX5_spellInto_X5 : ∀ w ∈ wsX50, w ∈ wsX5_spellInto := fun _ h => List.mem_cons_of_mem _ (List.mem_append_left _ (List.mem_append_left _ (List.mem_append_right _ (h))))
theorem mX5_spellInto_1 : Cond.fieldLink RX5 18 "PracticeSheets$Text" "spelled" "LPracticeSheets$Word;" ∈ wsX5_spellInto := List.mem_of_getElem? (i := 1) rfl
theorem mX5_spellInto_2 : Cond.fieldLink RX5 22 "PracticeSheets$Text" "length" "I" ∈ wsX5_spellInto := List.mem_of_getElem? (i := 2) rfl
theorem mX5_spellInto_3 : Cond.fieldLink RX5 9 "PracticeSheets$Text" "signs" "[C" ∈ wsX5_spellInto := List.mem_of_getElem? (i := 3) rfl
theorem mX5_spellInto_12 : Cond.initialized RX8 ∈ wsX5_spellInto := List.mem_of_getElem? (i := 12) rfl
theorem mX5_spellInto_11 : Cond.static yX8_letterNumber ∈ wsX5_spellInto := List.mem_of_getElem? (i := 11) rfl
set_option maxHeartbeats 4000000 in
set_option maxRecDepth 100000 in
theorem qX5_spellInto (l : Launch) (D : va_G) (E : Nat → ClassId) (ad : Nat → Nat → Nat) (L : List (Nat × Nat)) (A : Nat → Prop) (hF : gF E ad L A) (hLx : gLx L) (M0 : gW) (k1 : Nat) (hk1 : k1 < gN 5) (K : Int32 → gW → Prop) (hw : wX5_spellInto M0 k1 K) : Met l yX5_spellInto wsX5_spellInto rmX5_spellInto (va_Pc [.ref (ad 12 0), .ref (ad 5 k1)] (gPre D E ad L M0)) (gQi D E ad L A K) 0 0 A := by
  refine Met.ofW (cc := cX5_spellInto) (maxL := 3) (ret := (some .boolean)) (by decide) rfl ?_
  intro p e s m args below meth c s₁ B hml hv
  obtain ⟨rfl, hP, hK, hN⟩ := hv
  have hx := B.exec
  have hb := B.bytes
  have hr := B.returns
  have hts := atoms_spec (ws := wsX5_spellInto) B.pre
  have hown : s.vm.findClass RX5 = some m.cls := findClass_of_methodNamed B.named
  have hlocks := B.notSynchronized
  have S : CallFix p m c cX5_spellInto 3 s ([.ref (ad 12 0), .ref (ad 5 k1)] : List Value).toArray wsX5_spellInto RX5 := ⟨hx, hb, hml, hown, hts⟩
  have hS : va_S A s.heap s.heap [] := va_S.rf
  have hl := lv_entry ([.ref (ad 12 0), .ref (ad 5 k1)]) (n := 3) (Nat.le_of_ble_eq_true rfl)
  rw [lg_entry_eq]
  generalize (lg_sl ([.ref (ad 12 0), .ref (ad 5 k1)]) ++ List.replicate (3 - (lg_sl ([.ref (ad 12 0), .ref (ad 5 k1)])).length) Slot.unset).toArray = ls at hl ⊢
  have hl : lv_has ls 3 [(0, .ref (ad 12 0)), (1, .ref (ad 5 k1))] := hl
  refine lv_aload_n hx hb dX5_spellInto_0 rfl (lv_at hl 0 rfl) ?_
  refine g_get (v := .ref (ad 7 140)) hx hb hts hown hK hP (hLx.h (f := 12) (by decide)) (gC12 _ _ _ _) gcl5 iX5_spellInto_X5 1 (by decide) mX5_spellInto_1 rfl rfl dX5_spellInto_1 ?_
  refine g_Vv (As := []) (rest := []) S hK hN hP hS (qX6_clear l D E ad L A hF hLx M0 140 (by decide) _ hw) (cwV 0 hts gX5_spellInto_X6_clear rfl rfl rfl eX6_clear ⟨Nat.le_of_ble_eq_true rfl, Nat.le_of_ble_eq_true rfl⟩) (hLx.h (f := 7) (by decide)) (gC7 _ _ _ _) gcl6 rfl rfl rfl hl.1 (Nat.le_of_ble_eq_true rfl) ⟨Nat.zero_le _, Nat.zero_le _⟩ dX5_spellInto_4 (fun M1 H locs hw hP hS => ?_)
  refine lv_iconst (v := (0 : Int32)) hx hb dX5_spellInto_7 (by decide) ?_
  refine lv_istore_n (lv' := [(2, .int (0 : Int32)), (0, .ref (ad 12 0)), (1, .ref (ad 5 k1))]) hx hb dX5_spellInto_8 rfl hl (by decide) rfl (fun ls hl => ?_)
  obtain ⟨n21, hw⟩ := hw
  have hxX5_spellInto_L9_0 : ∀ (M16 : gW) (x2_17 : Int32) (H : Heap) (locs : List Loc) (ls : Array Slot), (wX7_take M16 k1 140 (fun r19 M18 => ((r19 = 0 ∨ r19 = 1) ∧ (K r19 M18)))) → va_P D vwCl (gL E ad L M16) H → va_S A s.heap H locs → lv_has ls 3 [(0, .ref (ad 12 0)), (1, .ref (ad 5 k1)), (2, .int x2_17)] → W p l e (headSpec wsX5_spellInto rmX5_spellInto).room s m (([.ref (ad 12 0), .ref (ad 5 k1)] : List Value).toArray) below meth c H locs 0 0 (MQ below (gQi D E ad L A K) ([.ref (ad 12 0), .ref (ad 5 k1)] : List Value).toArray s 0 0 A) (F0 m 76 ls []) := by
    intro M16 x2_17 H locs ls hw hP hS hl
    refine lv_aload_n hx hb dX5_spellInto_76 rfl (lv_at hl 1 rfl) ?_
    refine lv_aload_n hx hb dX5_spellInto_77 rfl (lv_at hl 0 rfl) ?_
    refine g_get (v := .ref (ad 7 140)) hx hb hts hown hK hP (hLx.h (f := 12) (by decide)) (gC12 _ _ _ _) gcl5 iX5_spellInto_X5 1 (by decide) mX5_spellInto_1 rfl rfl dX5_spellInto_78 ?_
    refine g_Vi (As := [.ref (ad 7 140)]) (rest := []) S hK hN hP hS (qX7_take l D E ad L A hF hLx M16 k1 140 hk1 (by decide) _ hw) (cwV 1 hts gX5_spellInto_X7_take rfl rfl rfl eX7_take ⟨Nat.le_of_ble_eq_true rfl, Nat.le_of_ble_eq_true rfl⟩) (hLx.h (f := 5) hk1) (gC5 _ _ _ _) gcl7 rfl rfl rfl hl.1 (Nat.le_of_ble_eq_true rfl) ⟨Nat.zero_le _, Nat.zero_le _⟩ dX5_spellInto_81 (fun r19 M18 H locs hw hP hS => ?_)
    have hb20 := hw.1
    have hw := hw.2
    exact g_zret hx hb hr hlocks hb20 hw hP hS dX5_spellInto_84
  have hlX5_spellInto_L9 : ∀ (n2 : Nat) (M3 : gW) (x2_4 : Int32) (H : Heap) (locs : List Loc) (ls : Array Slot), wX5_spellInto_L9 k1 K (fun M16 x2_17 => (wX7_take M16 k1 140 (fun r19 M18 => ((r19 = 0 ∨ r19 = 1) ∧ (K r19 M18))))) n2 M3 x2_4 → va_P D vwCl (gL E ad L M3) H → va_S A s.heap H locs → lv_has ls 3 [(0, .ref (ad 12 0)), (1, .ref (ad 5 k1)), (2, .int x2_4)] → W p l e (headSpec wsX5_spellInto rmX5_spellInto).room s m (([.ref (ad 12 0), .ref (ad 5 k1)] : List Value).toArray) below meth c H locs 0 0 (MQ below (gQi D E ad L A K) ([.ref (ad 12 0), .ref (ad 5 k1)] : List Value).toArray s 0 0 A) (F0 m 9 ls []) := by
    intro n2
    induction n2 with
    | zero => intro M3 x2_4 H locs ls hw; exact False.elim hw
    | succ n2 ihn2 =>
      intro M3 x2_4 H locs ls hw hP hS hl
      refine lv_iload_n hx hb dX5_spellInto_9 rfl (lv_at hl 2 rfl) ?_
      refine lv_aload_n hx hb dX5_spellInto_10 rfl (lv_at hl 0 rfl) ?_
      refine g_get (v := .int (M3 12 0 2)) hx hb hts hown hK hP (hLx.h (f := 12) (by decide)) (gC12 _ _ _ _) gcl5 iX5_spellInto_X5 2 (by decide) mX5_spellInto_2 rfl rfl dX5_spellInto_11 ?_
      refine lv_icmp_ge (tgt := 76) hx hb dX5_spellInto_14 (by decide) (fun c5 => ?_) (fun c5 => ?_)
      · have hw := hw.1 c5
        exact hxX5_spellInto_L9_0 _ _ _ _ _ hw hP hS (lv_sub hl [0, 1, 2] rfl)
      · have hw := hw.2 c5
        refine lv_aload_n hx hb dX5_spellInto_17 rfl (lv_at hl 0 rfl) ?_
        refine g_get (v := .ref (ad 13 0)) hx hb hts hown hK hP (hLx.h (f := 12) (by decide)) (gC12 _ _ _ _) gcl5 iX5_spellInto_X5 0 (by decide) mX5_spellInto_3 rfl rfl dX5_spellInto_18 ?_
        refine lv_iload_n hx hb dX5_spellInto_21 rfl (lv_at hl 2 rfl) ?_
        have hb6 := hw.1
        have hw := hw.2
        refine g_cald hx hb hK hP (hLx.h (f := 13) (by decide)) (gC13 _ _ _ _) hb6 dX5_spellInto_22 ?_
        refine lv_bipush (v := (44 : Int32)) hx hb dX5_spellInto_23 (by decide) ?_
        refine lv_icmp_eq (tgt := 47) hx hb dX5_spellInto_25 (by decide) (fun c7 => ?_) (fun c7 => ?_)
        · have hw := hw.1 c7
          refine lv_aload_n hx hb dX5_spellInto_47 rfl (lv_at hl 1 rfl) ?_
          refine lv_aload_n hx hb dX5_spellInto_48 rfl (lv_at hl 0 rfl) ?_
          refine g_get (v := .ref (ad 7 140)) hx hb hts hown hK hP (hLx.h (f := 12) (by decide)) (gC12 _ _ _ _) gcl5 iX5_spellInto_X5 1 (by decide) mX5_spellInto_1 rfl rfl dX5_spellInto_49 ?_
          refine g_Vi (As := [.ref (ad 7 140)]) (rest := []) S hK hN hP hS (qX7_take l D E ad L A hF hLx M3 k1 140 hk1 (by decide) _ hw) (cwV 1 hts gX5_spellInto_X7_take rfl rfl rfl eX7_take ⟨Nat.le_of_ble_eq_true rfl, Nat.le_of_ble_eq_true rfl⟩) (hLx.h (f := 5) hk1) (gC5 _ _ _ _) gcl7 rfl rfl rfl hl.1 (Nat.le_of_ble_eq_true rfl) ⟨Nat.zero_le _, Nat.zero_le _⟩ dX5_spellInto_52 (fun r9 M8 H locs hw hP hS => ?_)
          refine lv_if_eq (tgt := 68) hx hb dX5_spellInto_55 (by decide) (fun c10 => ?_) (fun c10 => ?_)
          · have hw := hw.1 c10
            refine lv_iconst (v := (0 : Int32)) hx hb dX5_spellInto_68 (by decide) ?_
            exact g_zret hx hb hr hlocks (by decide) hw hP hS dX5_spellInto_69
          · have hw := hw.2 c10
            refine lv_aload_n hx hb dX5_spellInto_58 rfl (lv_at hl 0 rfl) ?_
            refine g_get (v := .ref (ad 7 140)) hx hb hts hown hK hP (hLx.h (f := 12) (by decide)) (gC12 _ _ _ _) gcl5 iX5_spellInto_X5 1 (by decide) mX5_spellInto_1 rfl rfl dX5_spellInto_59 ?_
            refine g_Vv (As := []) (rest := []) S hK hN hP hS (qX6_clear l D E ad L A hF hLx M8 140 (by decide) _ hw) (cwV 0 hts gX5_spellInto_X6_clear rfl rfl rfl eX6_clear ⟨Nat.le_of_ble_eq_true rfl, Nat.le_of_ble_eq_true rfl⟩) (hLx.h (f := 7) (by decide)) (gC7 _ _ _ _) gcl6 rfl rfl rfl hl.1 (Nat.le_of_ble_eq_true rfl) ⟨Nat.zero_le _, Nat.zero_le _⟩ dX5_spellInto_62 (fun M11 H locs hw hP hS => ?_)
            refine lv_goto (tgt := 70) hx hb dX5_spellInto_65 (by decide) ?_
            refine lv_iinc (v := (x2_4 + (1 : Int32))) (lv' := [(2, .int (x2_4 + (1 : Int32))), (0, .ref (ad 12 0)), (1, .ref (ad 5 k1))]) hx hb dX5_spellInto_70 hl (k := 2) rfl rfl (by decide) rfl (fun ls hl => ?_)
            refine lv_goto (tgt := 9) hx hb dX5_spellInto_73 (by decide) ?_
            exact ihn2 _ _ _ _ _ hw hP hS (lv_sub hl [1, 2, 0] rfl)
        · have hw := hw.2 c7
          refine lv_aload_n hx hb dX5_spellInto_28 rfl (lv_at hl 0 rfl) ?_
          refine g_get (v := .ref (ad 7 140)) hx hb hts hown hK hP (hLx.h (f := 12) (by decide)) (gC12 _ _ _ _) gcl5 iX5_spellInto_X5 1 (by decide) mX5_spellInto_1 rfl rfl dX5_spellInto_29 ?_
          refine lv_aload_n hx hb dX5_spellInto_32 rfl (lv_at hl 0 rfl) ?_
          refine g_get (v := .ref (ad 13 0)) hx hb hts hown hK hP (hLx.h (f := 12) (by decide)) (gC12 _ _ _ _) gcl5 iX5_spellInto_X5 0 (by decide) mX5_spellInto_3 rfl rfl dX5_spellInto_33 ?_
          refine lv_iload_n hx hb dX5_spellInto_36 rfl (lv_at hl 2 rfl) ?_
          have hb12 := hw.1
          have hw := hw.2
          refine g_cald hx hb hK hP (hLx.h (f := 13) (by decide)) (gC13 _ _ _ _) hb12 dX5_spellInto_37 ?_
          refine g_SNi (As := [.int (M3 13 0 x2_4.toNatClampNeg)]) (rest := [.ref (ad 7 140)]) S hK hN hP hS (qX8_letterNumber l D E ad L A hF hLx M3 (M3 13 0 x2_4.toNatClampNeg)  _ hw) ⟨va_cnB 1 hts gX5_spellInto_X8_letterNumber_n40 rfl rfl rfl (hN.2 2 _ rfl) (hts _ mX5_spellInto_12) eX8_letterNumber.2 ⟨Nat.le_of_ble_eq_true rfl, Nat.le_of_ble_eq_true rfl⟩, hts _ mX5_spellInto_11, trivial⟩ rfl rfl hl.1 (Nat.le_of_ble_eq_true rfl) ⟨Nat.zero_le _, Nat.zero_le _⟩ dX5_spellInto_38 (fun r14 M13 H locs hw hP hS => ?_)
          refine g_Vv (As := [.int r14]) (rest := []) S hK hN hP hS (qX6_append l D E ad L A hF hLx M13 140 r14 (by decide) _ hw) (cwV 1 hts gX5_spellInto_X6_append rfl rfl rfl eX6_append ⟨Nat.le_of_ble_eq_true rfl, Nat.le_of_ble_eq_true rfl⟩) (hLx.h (f := 7) (by decide)) (gC7 _ _ _ _) gcl6 rfl rfl rfl hl.1 (Nat.le_of_ble_eq_true rfl) ⟨Nat.zero_le _, Nat.zero_le _⟩ dX5_spellInto_41 (fun M15 H locs hw hP hS => ?_)
          refine lv_goto (tgt := 70) hx hb dX5_spellInto_44 (by decide) ?_
          refine lv_iinc (v := (x2_4 + (1 : Int32))) (lv' := [(2, .int (x2_4 + (1 : Int32))), (0, .ref (ad 12 0)), (1, .ref (ad 5 k1))]) hx hb dX5_spellInto_70 hl (k := 2) rfl rfl (by decide) rfl (fun ls hl => ?_)
          refine lv_goto (tgt := 9) hx hb dX5_spellInto_73 (by decide) ?_
          exact ihn2 _ _ _ _ _ hw hP hS (lv_sub hl [1, 2, 0] rfl)
  exact hlX5_spellInto_L9 n21 _ _ _ _ _ hw hP hS (lv_sub hl [1, 2, 0] rfl)
abbrev rmX7_drop : Room := { frames := 2, cells := 0, slots := 0, locals := 39 }
theorem eX7_drop : yX7_drop.cls = RX7 ∧ yX7_drop.cls ≠ "java/lang/invoke/MethodHandle" ∧ yX7_drop.cls ≠ "java/lang/invoke/VarHandle" ∧ (parseMethodDescriptor yX7_drop.desc).map (fun d => d.parameters.length) = some 1 := by decide +kernel
theorem iX7_drop_X7 : ∀ w ∈ wsX70, w ∈ wsX7_drop := fun _ h => List.mem_cons_of_mem _ (List.mem_append_left _ (List.mem_append_right _ (h)))
theorem mX7_drop_1 : Cond.fieldLink RX7 18 "PracticeSheets$WordList" "size" "I" ∈ wsX7_drop := List.mem_of_getElem? (i := 1) rfl
theorem mX7_drop_2 : Cond.fieldLink RX7 11 "PracticeSheets$WordList" "words" "[LPracticeSheets$Word;" ∈ wsX7_drop := List.mem_of_getElem? (i := 2) rfl
set_option maxHeartbeats 4000000 in
set_option maxRecDepth 100000 in
theorem qX7_drop (l : Launch) (D : va_G) (E : Nat → ClassId) (ad : Nat → Nat → Nat) (L : List (Nat × Nat)) (A : Nat → Prop) (hF : gF E ad L A) (hLx : gLx L) (M0 : gW) (k0 : Nat) (a1 : Int32) (hk0 : k0 < gN 5) (K : gW → Prop) (hw : wX7_drop M0 k0 a1 K) : Met l yX7_drop wsX7_drop rmX7_drop (va_Pc [.ref (ad 5 k0), .int a1] (gPre D E ad L M0)) (gQv D E ad L A K) 0 0 A := by
  refine Met.ofW (cc := cX7_drop) (maxL := 3) (ret := none) (by decide) rfl ?_
  intro p e s m args below meth c s₁ B hml hv
  obtain ⟨rfl, hP, hK, hN⟩ := hv
  have hx := B.exec
  have hb := B.bytes
  have hr := B.returns
  have hts := atoms_spec (ws := wsX7_drop) B.pre
  have hown : s.vm.findClass RX7 = some m.cls := findClass_of_methodNamed B.named
  have hlocks := B.notSynchronized
  have S : CallFix p m c cX7_drop 3 s ([.ref (ad 5 k0), .int a1] : List Value).toArray wsX7_drop RX7 := ⟨hx, hb, hml, hown, hts⟩
  have hS : va_S A s.heap s.heap [] := va_S.rf
  have hl := lv_entry ([.ref (ad 5 k0), .int a1]) (n := 3) (Nat.le_of_ble_eq_true rfl)
  rw [lg_entry_eq]
  generalize (lg_sl ([.ref (ad 5 k0), .int a1]) ++ List.replicate (3 - (lg_sl ([.ref (ad 5 k0), .int a1])).length) Slot.unset).toArray = ls at hl ⊢
  have hl : lv_has ls 3 [(0, .ref (ad 5 k0)), (1, .int a1)] := hl
  refine lv_iload_n hx hb dX7_drop_0 rfl (lv_at hl 1 rfl) ?_
  refine lv_if_lt (tgt := 12) hx hb dX7_drop_1 (by decide) (fun c1 => ?_) (fun c1 => ?_)
  · have hw := hw.1 c1
    exact g_vret hx hb hr hlocks hw hP hS dX7_drop_12
  · have hw := hw.2 c1
    refine lv_iload_n hx hb dX7_drop_4 rfl (lv_at hl 1 rfl) ?_
    refine lv_aload_n hx hb dX7_drop_5 rfl (lv_at hl 0 rfl) ?_
    refine g_get (v := .int (M0 5 k0 1)) hx hb hts hown hK hP (hLx.h (f := 5) hk0) (gC5 _ _ _ _) gcl7 iX7_drop_X7 1 (by decide) mX7_drop_1 rfl rfl dX7_drop_6 ?_
    refine lv_icmp_lt (tgt := 13) hx hb dX7_drop_9 (by decide) (fun c2 => ?_) (fun c2 => ?_)
    · have hw := hw.1 c2
      refine lv_iload_n hx hb dX7_drop_13 rfl (lv_at hl 1 rfl) ?_
      refine lv_iconst (v := (1 : Int32)) hx hb dX7_drop_14 (by decide) ?_
      refine lv_iadd hx hb dX7_drop_15 ?_
      refine lv_istore_n (lv' := [(2, .int (a1 + (1 : Int32))), (0, .ref (ad 5 k0)), (1, .int a1)]) hx hb dX7_drop_16 rfl hl (by decide) rfl (fun ls hl => ?_)
      obtain ⟨n14, hw⟩ := hw
      have hxX7_drop_L17_0 : ∀ (M10 : gW) (x2_11 : Int32) (H : Heap) (locs : List Loc) (ls : Array Slot), (∀ M12 : gW, M12 = gU M10 5 k0 (upd (M10 5 k0) 1 ((M10 5 k0 1) - (1 : Int32))) → (K M12)) → va_P D vwCl (gL E ad L M10) H → va_S A s.heap H locs → lv_has ls 3 [(0, .ref (ad 5 k0)), (1, .int a1), (2, .int x2_11)] → W p l e (headSpec wsX7_drop rmX7_drop).room s m (([.ref (ad 5 k0), .int a1] : List Value).toArray) below meth c H locs 0 0 (MQ below (gQv D E ad L A K) ([.ref (ad 5 k0), .int a1] : List Value).toArray s 0 0 A) (F0 m 48 ls []) := by
        intro M10 x2_11 H locs ls hw hP hS hl
        refine lv_aload_n hx hb dX7_drop_48 rfl (lv_at hl 0 rfl) ?_
        refine lv_dup hx hb dX7_drop_49 rfl ?_
        refine g_get (v := .int (M10 5 k0 1)) hx hb hts hown hK hP (hLx.h (f := 5) hk0) (gC5 _ _ _ _) gcl7 iX7_drop_X7 1 (by decide) mX7_drop_1 rfl rfl dX7_drop_50 ?_
        refine lv_iconst (v := (1 : Int32)) hx hb dX7_drop_53 (by decide) ?_
        refine lv_isub hx hb dX7_drop_54 ?_
        refine g_put hx hb hF hts hown hK hP hS (hLx.h (f := 5) hk0) (gC5 _ _ _ _) gcl7 iX7_drop_X7 tyX7 tyX7_ok nmX7 1 (by decide) mX7_drop_1 rfl rfl rfl rfl (Nat.lt_of_lt_of_eq (by decide : 1 < 2) rfl) rfl dX7_drop_55 (fun M12 e13 H locs hP hS => ?_)
        have hw := hw M12 e13
        exact g_vret hx hb hr hlocks hw hP hS dX7_drop_58
      have hlX7_drop_L17 : ∀ (n3 : Nat) (M4 : gW) (x2_5 : Int32) (H : Heap) (locs : List Loc) (ls : Array Slot), wX7_drop_L17 k0 (fun M10 x2_11 => (∀ M12 : gW, M12 = gU M10 5 k0 (upd (M10 5 k0) 1 ((M10 5 k0 1) - (1 : Int32))) → (K M12))) n3 M4 x2_5 → va_P D vwCl (gL E ad L M4) H → va_S A s.heap H locs → lv_has ls 3 [(0, .ref (ad 5 k0)), (1, .int a1), (2, .int x2_5)] → W p l e (headSpec wsX7_drop rmX7_drop).room s m (([.ref (ad 5 k0), .int a1] : List Value).toArray) below meth c H locs 0 0 (MQ below (gQv D E ad L A K) ([.ref (ad 5 k0), .int a1] : List Value).toArray s 0 0 A) (F0 m 17 ls []) := by
        intro n3
        induction n3 with
        | zero => intro M4 x2_5 H locs ls hw; exact False.elim hw
        | succ n3 ihn3 =>
          intro M4 x2_5 H locs ls hw hP hS hl
          refine lv_iload_n hx hb dX7_drop_17 rfl (lv_at hl 2 rfl) ?_
          refine lv_aload_n hx hb dX7_drop_18 rfl (lv_at hl 0 rfl) ?_
          refine g_get (v := .int (M4 5 k0 1)) hx hb hts hown hK hP (hLx.h (f := 5) hk0) (gC5 _ _ _ _) gcl7 iX7_drop_X7 1 (by decide) mX7_drop_1 rfl rfl dX7_drop_19 ?_
          refine lv_icmp_ge (tgt := 48) hx hb dX7_drop_22 (by decide) (fun c6 => ?_) (fun c6 => ?_)
          · have hw := hw.1 c6
            exact hxX7_drop_L17_0 _ _ _ _ _ hw hP hS (lv_sub hl [0, 1, 2] rfl)
          · have hw := hw.2 c6
            refine lv_aload_n hx hb dX7_drop_25 rfl (lv_at hl 0 rfl) ?_
            refine g_get (v := .ref (ad 6 k0)) hx hb hts hown hK hP (hLx.h (f := 5) hk0) (gC5 _ _ _ _) gcl7 iX7_drop_X7 0 (by decide) mX7_drop_2 rfl rfl dX7_drop_26 ?_
            refine lv_iload_n hx hb dX7_drop_29 rfl (lv_at hl 2 rfl) ?_
            refine lv_iconst (v := (1 : Int32)) hx hb dX7_drop_30 (by decide) ?_
            refine lv_isub hx hb dX7_drop_31 ?_
            have hb7 := hw.1
            have hw := hw.2
            refine g_aldw hx hb hK hP (hLx.h (f := 6) hk0) hb7 dX7_drop_32 ?_
            refine lv_aload_n hx hb dX7_drop_33 rfl (lv_at hl 0 rfl) ?_
            refine g_get (v := .ref (ad 6 k0)) hx hb hts hown hK hP (hLx.h (f := 5) hk0) (gC5 _ _ _ _) gcl7 iX7_drop_X7 0 (by decide) mX7_drop_2 rfl rfl dX7_drop_34 ?_
            refine lv_iload_n hx hb dX7_drop_37 rfl (lv_at hl 2 rfl) ?_
            have hb8 := hw.1
            have hw := hw.2
            refine g_aldw hx hb hK hP (hLx.h (f := 6) hk0) hb8 dX7_drop_38 ?_
            refine g_Vv (As := [.ref (ad 7 (20 * k0 + x2_5.toNatClampNeg))]) (rest := []) S hK hN hP hS (qX6_copyFrom l D E ad L A hF hLx M4 (20 * k0 + (x2_5 - (1 : Int32)).toNatClampNeg) (20 * k0 + x2_5.toNatClampNeg) (g_word hk0 hb7) (g_word hk0 hb8) _ hw) (cwV 1 hts gX7_drop_X6_copyFrom rfl rfl rfl eX6_copyFrom ⟨Nat.le_of_ble_eq_true rfl, Nat.le_of_ble_eq_true rfl⟩) (hLx.h (f := 7) (g_word hk0 hb7)) (gC7 _ _ _ _) gcl6 rfl rfl rfl hl.1 (Nat.le_of_ble_eq_true rfl) ⟨Nat.zero_le _, Nat.zero_le _⟩ dX7_drop_39 (fun M9 H locs hw hP hS => ?_)
            refine lv_iinc (v := (x2_5 + (1 : Int32))) (lv' := [(2, .int (x2_5 + (1 : Int32))), (0, .ref (ad 5 k0)), (1, .int a1)]) hx hb dX7_drop_42 hl (k := 2) rfl rfl (by decide) rfl (fun ls hl => ?_)
            refine lv_goto (tgt := 17) hx hb dX7_drop_45 (by decide) ?_
            exact ihn3 _ _ _ _ _ hw hP hS (lv_sub hl [1, 2, 0] rfl)
      exact hlX7_drop_L17 n14 _ _ _ _ _ hw hP hS (lv_sub hl [1, 2, 0] rfl)
    · have hw := hw.2 c2
      exact g_vret hx hb hr hlocks hw hP hS dX7_drop_12
