/-! ===== LAYER 1: contracts, walked (printed by wip/whole/gen.py) ===== -/
abbrev rmX7_howManyHave : Room := { frames := 1, cells := 0, slots := 0, locals := 22 }
theorem eX7_howManyHave : yX7_howManyHave.cls = RX7 ∧ yX7_howManyHave.cls ≠ "java/lang/invoke/MethodHandle" ∧ yX7_howManyHave.cls ≠ "java/lang/invoke/VarHandle" ∧ (parseMethodDescriptor yX7_howManyHave.desc).map (fun d => d.parameters.length) = some 1 := by decide +kernel
theorem iX7_howManyHave_X7 : ∀ w ∈ wsX70, w ∈ wsX7_howManyHave := fun _ h => List.mem_cons_of_mem _ (List.mem_append_left _ (List.mem_append_right _ (h)))
theorem mX7_howManyHave_1 : Cond.fieldLink RX7 18 "PracticeSheets$WordList" "size" "I" ∈ wsX7_howManyHave := List.mem_of_getElem? (i := 1) rfl
theorem mX7_howManyHave_2 : Cond.fieldLink RX7 11 "PracticeSheets$WordList" "words" "[LPracticeSheets$Word;" ∈ wsX7_howManyHave := List.mem_of_getElem? (i := 2) rfl
set_option maxHeartbeats 4000000 in
set_option maxRecDepth 100000 in
theorem qX7_howManyHave (l : Launch) (D : va_G) (E : Nat → ClassId) (ad : Nat → Nat → Nat) (L : List (Nat × Nat)) (A : Nat → Prop) (hF : gF E ad L A) (hLx : gLx L) (M0 : gW) (k0 : Nat) (a1 : Int32) (hk0 : k0 < gN 5) (K : Int32 → gW → Prop) (hw : wX7_howManyHave M0 k0 a1 K) : Met l yX7_howManyHave wsX7_howManyHave rmX7_howManyHave (va_Pc [.ref (ad 5 k0), .int a1] (gPre D E ad L M0)) (gQi D E ad L A K) 0 0 A := by
  refine Met.ofW (cc := cX7_howManyHave) (maxL := 4) (ret := (some .int)) (by decide) rfl ?_
  intro p e s m args below meth c s₁ B hml hv
  obtain ⟨rfl, hP, hK, hN⟩ := hv
  have hx := B.exec
  have hb := B.bytes
  have hr := B.returns
  have hts := atoms_spec (ws := wsX7_howManyHave) B.pre
  have hown : s.vm.findClass RX7 = some m.cls := findClass_of_methodNamed B.named
  have hlocks := B.notSynchronized
  have S : CallFix p m c cX7_howManyHave 4 s ([.ref (ad 5 k0), .int a1] : List Value).toArray wsX7_howManyHave RX7 := ⟨hx, hb, hml, hown, hts⟩
  have hS : va_S A s.heap s.heap [] := va_S.rf
  have hl := lv_entry ([.ref (ad 5 k0), .int a1]) (n := 4) (Nat.le_of_ble_eq_true rfl)
  rw [lg_entry_eq]
  generalize (lg_sl ([.ref (ad 5 k0), .int a1]) ++ List.replicate (4 - (lg_sl ([.ref (ad 5 k0), .int a1])).length) Slot.unset).toArray = ls at hl ⊢
  have hl : lv_has ls 4 [(0, .ref (ad 5 k0)), (1, .int a1)] := hl
  refine lv_iconst (v := (0 : Int32)) hx hb dX7_howManyHave_0 (by decide) ?_
  refine lv_istore_n (lv' := [(2, .int (0 : Int32)), (0, .ref (ad 5 k0)), (1, .int a1)]) hx hb dX7_howManyHave_1 rfl hl (by decide) rfl (fun ls hl => ?_)
  refine lv_iconst (v := (0 : Int32)) hx hb dX7_howManyHave_2 (by decide) ?_
  refine lv_istore_n (lv' := [(3, .int (0 : Int32)), (2, .int (0 : Int32)), (0, .ref (ad 5 k0)), (1, .int a1)]) hx hb dX7_howManyHave_3 rfl hl (by decide) rfl (fun ls hl => ?_)
  obtain ⟨n13, hw⟩ := hw
  have hxX7_howManyHave_L4_0 : ∀ (M10 : gW) (x2_11 : Int32) (x3_12 : Int32) (H : Heap) (locs : List Loc) (ls : Array Slot), (K x2_11 M10) → va_P D vwCl (gL E ad L M10) H → va_S A s.heap H locs → lv_has ls 4 [(0, .ref (ad 5 k0)), (1, .int a1), (2, .int x2_11), (3, .int x3_12)] → W p l e (headSpec wsX7_howManyHave rmX7_howManyHave).room s m (([.ref (ad 5 k0), .int a1] : List Value).toArray) below meth c H locs 0 0 (MQ below (gQi D E ad L A K) ([.ref (ad 5 k0), .int a1] : List Value).toArray s 0 0 A) (F0 m 34 ls []) := by
    intro M10 x2_11 x3_12 H locs ls hw hP hS hl
    refine lv_iload_n hx hb dX7_howManyHave_34 rfl (lv_at hl 2 rfl) ?_
    exact g_iret hx hb hr hlocks hw hP hS dX7_howManyHave_35
  have hlX7_howManyHave_L4 : ∀ (n1 : Nat) (M2 : gW) (x2_3 : Int32) (x3_4 : Int32) (H : Heap) (locs : List Loc) (ls : Array Slot), wX7_howManyHave_L4 k0 a1 (fun M10 x2_11 x3_12 => (K x2_11 M10)) n1 M2 x2_3 x3_4 → va_P D vwCl (gL E ad L M2) H → va_S A s.heap H locs → lv_has ls 4 [(0, .ref (ad 5 k0)), (1, .int a1), (2, .int x2_3), (3, .int x3_4)] → W p l e (headSpec wsX7_howManyHave rmX7_howManyHave).room s m (([.ref (ad 5 k0), .int a1] : List Value).toArray) below meth c H locs 0 0 (MQ below (gQi D E ad L A K) ([.ref (ad 5 k0), .int a1] : List Value).toArray s 0 0 A) (F0 m 4 ls []) := by
    intro n1
    induction n1 with
    | zero => intro M2 x2_3 x3_4 H locs ls hw; exact False.elim hw
    | succ n1 ihn1 =>
      intro M2 x2_3 x3_4 H locs ls hw hP hS hl
      refine lv_iload_n hx hb dX7_howManyHave_4 rfl (lv_at hl 3 rfl) ?_
      refine lv_aload_n hx hb dX7_howManyHave_5 rfl (lv_at hl 0 rfl) ?_
      refine g_get (v := .int (M2 5 k0 1)) hx hb hts hown hK hP (hLx.h (f := 5) hk0) (gC5 _ _ _ _) gcl7 iX7_howManyHave_X7 1 (by decide) mX7_howManyHave_1 rfl rfl dX7_howManyHave_6 ?_
      refine lv_icmp_ge (tgt := 34) hx hb dX7_howManyHave_9 (by decide) (fun c5 => ?_) (fun c5 => ?_)
      · have hw := hw.1 c5
        exact hxX7_howManyHave_L4_0 _ _ _ _ _ _ hw hP hS (lv_sub hl [0, 1, 2, 3] rfl)
      · have hw := hw.2 c5
        refine lv_aload_n hx hb dX7_howManyHave_12 rfl (lv_at hl 0 rfl) ?_
        refine g_get (v := .ref (ad 6 k0)) hx hb hts hown hK hP (hLx.h (f := 5) hk0) (gC5 _ _ _ _) gcl7 iX7_howManyHave_X7 0 (by decide) mX7_howManyHave_2 rfl rfl dX7_howManyHave_13 ?_
        refine lv_iload_n hx hb dX7_howManyHave_16 rfl (lv_at hl 3 rfl) ?_
        have hb6 := hw.1
        have hw := hw.2
        refine g_aldw hx hb hK hP (hLx.h (f := 6) hk0) hb6 dX7_howManyHave_17 ?_
        refine lv_iload_n hx hb dX7_howManyHave_18 rfl (lv_at hl 1 rfl) ?_
        refine g_Vi (As := [.int a1]) (rest := []) S hK hN hP hS (qX6_has l D E ad L A hF hLx M2 (20 * k0 + x3_4.toNatClampNeg) a1 (g_word hk0 hb6) _ hw) (cwV 1 hts gX7_howManyHave_X6_has rfl rfl rfl eX6_has ⟨Nat.le_of_ble_eq_true rfl, Nat.le_of_ble_eq_true rfl⟩) (hLx.h (f := 7) (g_word hk0 hb6)) (gC7 _ _ _ _) gcl6 rfl rfl rfl hl.1 (Nat.le_of_ble_eq_true rfl) ⟨Nat.zero_le _, Nat.zero_le _⟩ dX7_howManyHave_19 (fun r8 M7 H locs hw hP hS => ?_)
        refine lv_if_eq (tgt := 28) hx hb dX7_howManyHave_22 (by decide) (fun c9 => ?_) (fun c9 => ?_)
        · have hw := hw.1 c9
          refine lv_iinc (v := (x3_4 + (1 : Int32))) (lv' := [(3, .int (x3_4 + (1 : Int32))), (0, .ref (ad 5 k0)), (1, .int a1), (2, .int x2_3)]) hx hb dX7_howManyHave_28 hl (k := 3) rfl rfl (by decide) rfl (fun ls hl => ?_)
          refine lv_goto (tgt := 4) hx hb dX7_howManyHave_31 (by decide) ?_
          exact ihn1 _ _ _ _ _ _ hw hP hS (lv_sub hl [1, 2, 3, 0] rfl)
        · have hw := hw.2 c9
          refine lv_iinc (v := (x2_3 + (1 : Int32))) (lv' := [(2, .int (x2_3 + (1 : Int32))), (0, .ref (ad 5 k0)), (1, .int a1), (3, .int x3_4)]) hx hb dX7_howManyHave_25 hl (k := 2) rfl rfl (by decide) rfl (fun ls hl => ?_)
          refine lv_iinc (v := (x3_4 + (1 : Int32))) (lv' := [(3, .int (x3_4 + (1 : Int32))), (2, .int (x2_3 + (1 : Int32))), (0, .ref (ad 5 k0)), (1, .int a1)]) hx hb dX7_howManyHave_28 hl (k := 3) rfl rfl (by decide) rfl (fun ls hl => ?_)
          refine lv_goto (tgt := 4) hx hb dX7_howManyHave_31 (by decide) ?_
          exact ihn1 _ _ _ _ _ _ hw hP hS (lv_sub hl [2, 3, 1, 0] rfl)
  exact hlX7_howManyHave_L4 n13 _ _ _ _ _ _ hw hP hS (lv_sub hl [2, 3, 1, 0] rfl)
abbrev rmX8_write : Room := { frames := 5, cells := 0, slots := 0, locals := 103 }
theorem eX8_write : yX8_write.cls = RX8 ∧ yX8_write.cls ≠ "java/lang/invoke/MethodHandle" ∧ yX8_write.cls ≠ "java/lang/invoke/VarHandle" ∧ (parseMethodDescriptor yX8_write.desc).map (fun d => d.parameters.length) = some 0 := by decide +kernel
theorem iX8_write_X8 : ∀ w ∈ wsX80, w ∈ wsX8_write := fun _ h => List.mem_cons_of_mem _ (List.mem_append_left _ (List.mem_append_left _ (List.mem_append_left _ (List.mem_append_left _ (List.mem_append_left _ (List.mem_append_left _ (List.mem_append_right _ (h))))))))
theorem mX8_write_1 : Cond.fieldLink RX8 32 "PracticeSheets" "text" "LPracticeSheets$Text;" ∈ wsX8_write := List.mem_of_getElem? (i := 1) rfl
theorem mX8_write_2 : Cond.fieldLink RX8 25 "PracticeSheets" "history" "LPracticeSheets$History;" ∈ wsX8_write := List.mem_of_getElem? (i := 2) rfl
theorem mX8_write_3 : Cond.fieldLink RX8 12 "PracticeSheets" "now" "LPracticeSheets$State;" ∈ wsX8_write := List.mem_of_getElem? (i := 3) rfl
theorem iX8_write_X4 : ∀ w ∈ wsX40, w ∈ wsX8_write := fun _ h => List.mem_cons_of_mem _ (List.mem_append_left _ (List.mem_append_left _ (List.mem_append_left _ (List.mem_append_left _ (List.mem_append_left _ (List.mem_append_right _ (h)))))))
set_option maxHeartbeats 4000000 in
set_option maxRecDepth 100000 in
theorem qX8_write (l : Launch) (D : va_G) (E : Nat → ClassId) (ad : Nat → Nat → Nat) (L : List (Nat × Nat)) (A : Nat → Prop) (hF : gF E ad L A) (hLx : gLx L) (M0 : gW)  (K : Int32 → gW → Prop) (hw : wX8_write M0 K) : Met l yX8_write wsX8_write rmX8_write (va_Pc [.ref (ad 0 0)] (gPre D E ad L M0)) (gQi D E ad L A K) 0 0 A := by
  refine Met.ofW (cc := cX8_write) (maxL := 3) (ret := (some .int)) (by decide) rfl ?_
  intro p e s m args below meth c s₁ B hml hv
  obtain ⟨rfl, hP, hK, hN⟩ := hv
  have hx := B.exec
  have hb := B.bytes
  have hr := B.returns
  have hts := atoms_spec (ws := wsX8_write) B.pre
  have hown : s.vm.findClass RX8 = some m.cls := findClass_of_methodNamed B.named
  have hlocks := B.notSynchronized
  have S : CallFix p m c cX8_write 3 s ([.ref (ad 0 0)] : List Value).toArray wsX8_write RX8 := ⟨hx, hb, hml, hown, hts⟩
  have hS : va_S A s.heap s.heap [] := va_S.rf
  have hl := lv_entry ([.ref (ad 0 0)]) (n := 3) (Nat.le_of_ble_eq_true rfl)
  rw [lg_entry_eq]
  generalize (lg_sl ([.ref (ad 0 0)]) ++ List.replicate (3 - (lg_sl ([.ref (ad 0 0)])).length) Slot.unset).toArray = ls at hl ⊢
  have hl : lv_has ls 3 [(0, .ref (ad 0 0))] := hl
  refine lv_aload_n hx hb dX8_write_0 rfl (lv_at hl 0 rfl) ?_
  refine g_get (v := .ref (ad 12 0)) hx hb hts hown hK hP (hLx.h (f := 0) (by decide)) (gC0 _ _ _ _) gcl8 iX8_write_X8 4 (by decide) mX8_write_1 rfl rfl dX8_write_1 ?_
  refine g_Vi (As := []) (rest := []) S hK hN hP hS (qX5_faultAsWritten l D E ad L A hF hLx M0  _ hw) (cwV 0 hts gX8_write_X5_faultAsWritten rfl rfl rfl eX5_faultAsWritten ⟨Nat.le_of_ble_eq_true rfl, Nat.le_of_ble_eq_true rfl⟩) (hLx.h (f := 12) (by decide)) (gC12 _ _ _ _) gcl5 rfl rfl rfl hl.1 (Nat.le_of_ble_eq_true rfl) ⟨Nat.zero_le _, Nat.zero_le _⟩ dX8_write_4 (fun r2 M1 H locs hw hP hS => ?_)
  refine lv_istore_n (lv' := [(1, .int r2), (0, .ref (ad 0 0))]) hx hb dX8_write_7 rfl hl (by decide) rfl (fun ls hl => ?_)
  refine lv_iload_n hx hb dX8_write_8 rfl (lv_at hl 0 rfl) ?_
  refine lv_iconst (v := (-1 : Int32)) hx hb dX8_write_9 (by decide) ?_
  refine lv_icmp_eq (tgt := 18) hx hb dX8_write_10 (by decide) (fun c3 => ?_) (fun c3 => ?_)
  · have hw := hw.1 c3
    refine lv_aload_n hx hb dX8_write_18 rfl (lv_at hl 1 rfl) ?_
    refine g_get (v := .ref (ad 10 0)) hx hb hts hown hK hP (hLx.h (f := 0) (by decide)) (gC0 _ _ _ _) gcl8 iX8_write_X8 3 (by decide) mX8_write_2 rfl rfl dX8_write_19 ?_
    refine lv_aload_n hx hb dX8_write_22 rfl (lv_at hl 1 rfl) ?_
    refine g_get (v := .ref (ad 1 0)) hx hb hts hown hK hP (hLx.h (f := 0) (by decide)) (gC0 _ _ _ _) gcl8 iX8_write_X8 0 (by decide) mX8_write_3 rfl rfl dX8_write_23 ?_
    refine g_Vv (As := [.ref (ad 1 0)]) (rest := []) S hK hN hP hS (qX0_remember l D E ad L A hF hLx M1 0 (by decide) _ hw) (cwV 1 hts gX8_write_X0_remember rfl rfl rfl eX0_remember ⟨Nat.le_of_ble_eq_true rfl, Nat.le_of_ble_eq_true rfl⟩) (hLx.h (f := 10) (by decide)) (gC10 _ _ _ _) gcl0 rfl rfl rfl hl.1 (Nat.le_of_ble_eq_true rfl) ⟨Nat.zero_le _, Nat.zero_le _⟩ dX8_write_26 (fun M4 H locs hw hP hS => ?_)
    refine lv_aload_n hx hb dX8_write_29 rfl (lv_at hl 1 rfl) ?_
    refine g_get (v := .ref (ad 12 0)) hx hb hts hown hK hP (hLx.h (f := 0) (by decide)) (gC0 _ _ _ _) gcl8 iX8_write_X8 4 (by decide) mX8_write_1 rfl rfl dX8_write_30 ?_
    refine lv_aload_n hx hb dX8_write_33 rfl (lv_at hl 1 rfl) ?_
    refine g_get (v := .ref (ad 1 0)) hx hb hts hown hK hP (hLx.h (f := 0) (by decide)) (gC0 _ _ _ _) gcl8 iX8_write_X8 0 (by decide) mX8_write_3 rfl rfl dX8_write_34 ?_
    refine g_getN (v := .ref (ad 2 0)) hx hb hts hown hK hN hP (hLx.h (f := 1) (by decide)) (gC1 _ _ _ _) gcl4 iX8_write_X4 0 (by decide) 15 rfl rfl rfl dX8_write_37 ?_
    refine g_Vi (As := [.ref (ad 2 0)]) (rest := []) S hK hN hP hS (qX5_practiseIn l D E ad L A hF hLx M4 0 (by decide) _ hw) (cwV 1 hts gX8_write_X5_practiseIn rfl rfl rfl eX5_practiseIn ⟨Nat.le_of_ble_eq_true rfl, Nat.le_of_ble_eq_true rfl⟩) (hLx.h (f := 12) (by decide)) (gC12 _ _ _ _) gcl5 rfl rfl rfl hl.1 (Nat.le_of_ble_eq_true rfl) ⟨Nat.zero_le _, Nat.zero_le _⟩ dX8_write_40 (fun r6 M5 H locs hw hP hS => ?_)
    refine lv_istore_n (lv' := [(2, .int r6), (1, .int r2), (0, .ref (ad 0 0))]) hx hb dX8_write_43 rfl hl (by decide) rfl (fun ls hl => ?_)
    refine lv_aload_n hx hb dX8_write_44 rfl (lv_at hl 2 rfl) ?_
    refine g_get (v := .ref (ad 1 0)) hx hb hts hown hK hP (hLx.h (f := 0) (by decide)) (gC0 _ _ _ _) gcl8 iX8_write_X8 0 (by decide) mX8_write_3 rfl rfl dX8_write_45 ?_
    refine lv_dup hx hb dX8_write_48 rfl ?_
    refine g_getN (v := .int (M5 1 0 4)) hx hb hts hown hK hN hP (hLx.h (f := 1) (by decide)) (gC1 _ _ _ _) gcl4 iX8_write_X4 4 (by decide) 22 rfl rfl rfl dX8_write_49 ?_
    refine lv_iconst (v := (1 : Int32)) hx hb dX8_write_52 (by decide) ?_
    refine lv_iadd hx hb dX8_write_53 ?_
    refine g_putN hx hb hF hts hown hK hN hP hS (hLx.h (f := 1) (by decide)) (gC1 _ _ _ _) gcl4 iX8_write_X4 tyX4 tyX4_ok nmX4 4 (by decide) 22 rfl rfl rfl rfl rfl (Nat.lt_of_lt_of_eq (by decide : 4 < 7) rfl) rfl dX8_write_54 (fun M7 e8 H locs hP hS => ?_)
    have hw := hw M7 e8
    refine lv_aload_n hx hb dX8_write_57 rfl (lv_at hl 2 rfl) ?_
    refine g_get (v := .ref (ad 1 0)) hx hb hts hown hK hP (hLx.h (f := 0) (by decide)) (gC0 _ _ _ _) gcl8 iX8_write_X8 0 (by decide) mX8_write_3 rfl rfl dX8_write_58 ?_
    refine lv_dup hx hb dX8_write_61 rfl ?_
    refine g_getN (v := .int (M7 1 0 5)) hx hb hts hown hK hN hP (hLx.h (f := 1) (by decide)) (gC1 _ _ _ _) gcl4 iX8_write_X4 5 (by decide) 23 rfl rfl rfl dX8_write_62 ?_
    refine lv_iload_n hx hb dX8_write_65 rfl (lv_at hl 0 rfl) ?_
    refine lv_iadd hx hb dX8_write_66 ?_
    refine g_putN hx hb hF hts hown hK hN hP hS (hLx.h (f := 1) (by decide)) (gC1 _ _ _ _) gcl4 iX8_write_X4 tyX4 tyX4_ok nmX4 5 (by decide) 23 rfl rfl rfl rfl rfl (Nat.lt_of_lt_of_eq (by decide : 5 < 7) rfl) rfl dX8_write_67 (fun M9 e10 H locs hP hS => ?_)
    have hw := hw M9 e10
    refine lv_iload_n hx hb dX8_write_70 rfl (lv_at hl 0 rfl) ?_
    exact g_iret hx hb hr hlocks hw hP hS dX8_write_71
  · have hw := hw.2 c3
    refine lv_bipush (v := (-100 : Int32)) hx hb dX8_write_13 (by decide) ?_
    refine lv_iload_n hx hb dX8_write_15 rfl (lv_at hl 0 rfl) ?_
    refine lv_isub hx hb dX8_write_16 ?_
    exact g_iret hx hb hr hlocks hw hP hS dX8_write_17
abbrev rmX8_pass : Room := { frames := 5, cells := 0, slots := 0, locals := 103 }
theorem eX8_pass : yX8_pass.cls = RX8 ∧ yX8_pass.cls ≠ "java/lang/invoke/MethodHandle" ∧ yX8_pass.cls ≠ "java/lang/invoke/VarHandle" ∧ (parseMethodDescriptor yX8_pass.desc).map (fun d => d.parameters.length) = some 1 := by decide +kernel
theorem iX8_pass_X8 : ∀ w ∈ wsX80, w ∈ wsX8_pass := fun _ h => List.mem_cons_of_mem _ (List.mem_append_left _ (List.mem_append_left _ (List.mem_append_left _ (List.mem_append_left _ (List.mem_append_left _ (List.mem_append_right _ (h)))))))
theorem mX8_pass_1 : Cond.fieldLink RX8 12 "PracticeSheets" "now" "LPracticeSheets$State;" ∈ wsX8_pass := List.mem_of_getElem? (i := 1) rfl
theorem iX8_pass_X4 : ∀ w ∈ wsX40, w ∈ wsX8_pass := fun _ h => List.mem_cons_of_mem _ (List.mem_append_left _ (List.mem_append_left _ (List.mem_append_left _ (List.mem_append_left _ (List.mem_append_right _ (h))))))
theorem mX8_pass_2 : Cond.fieldLink RX8 25 "PracticeSheets" "history" "LPracticeSheets$History;" ∈ wsX8_pass := List.mem_of_getElem? (i := 2) rfl
set_option maxHeartbeats 4000000 in
set_option maxRecDepth 100000 in
theorem qX8_pass (l : Launch) (D : va_G) (E : Nat → ClassId) (ad : Nat → Nat → Nat) (L : List (Nat × Nat)) (A : Nat → Prop) (hF : gF E ad L A) (hLx : gLx L) (M0 : gW) (a1 : Int32)  (K : Int32 → gW → Prop) (hw : wX8_pass M0 a1 K) : Met l yX8_pass wsX8_pass rmX8_pass (va_Pc [.ref (ad 0 0), .int a1] (gPre D E ad L M0)) (gQi D E ad L A K) 0 0 A := by
  refine Met.ofW (cc := cX8_pass) (maxL := 2) (ret := (some .int)) (by decide) rfl ?_
  intro p e s m args below meth c s₁ B hml hv
  obtain ⟨rfl, hP, hK, hN⟩ := hv
  have hx := B.exec
  have hb := B.bytes
  have hr := B.returns
  have hts := atoms_spec (ws := wsX8_pass) B.pre
  have hown : s.vm.findClass RX8 = some m.cls := findClass_of_methodNamed B.named
  have hlocks := B.notSynchronized
  have S : CallFix p m c cX8_pass 2 s ([.ref (ad 0 0), .int a1] : List Value).toArray wsX8_pass RX8 := ⟨hx, hb, hml, hown, hts⟩
  have hS : va_S A s.heap s.heap [] := va_S.rf
  have hl := lv_entry ([.ref (ad 0 0), .int a1]) (n := 2) (Nat.le_of_ble_eq_true rfl)
  rw [lg_entry_eq]
  generalize (lg_sl ([.ref (ad 0 0), .int a1]) ++ List.replicate (2 - (lg_sl ([.ref (ad 0 0), .int a1])).length) Slot.unset).toArray = ls at hl ⊢
  have hl : lv_has ls 2 [(0, .ref (ad 0 0)), (1, .int a1)] := hl
  refine lv_iload_n hx hb dX8_pass_0 rfl (lv_at hl 1 rfl) ?_
  refine lv_iconst (v := (1 : Int32)) hx hb dX8_pass_1 (by decide) ?_
  refine lv_icmp_lt (tgt := 11) hx hb dX8_pass_2 (by decide) (fun c1 => ?_) (fun c1 => ?_)
  · have hw := hw.1 c1
    refine lv_bipush (v := (-2 : Int32)) hx hb dX8_pass_11 (by decide) ?_
    exact g_iret hx hb hr hlocks hw hP hS dX8_pass_13
  · have hw := hw.2 c1
    refine lv_iload_n hx hb dX8_pass_5 rfl (lv_at hl 1 rfl) ?_
    refine lv_bipush (v := (20 : Int32)) hx hb dX8_pass_6 (by decide) ?_
    refine lv_icmp_le (tgt := 14) hx hb dX8_pass_8 (by decide) (fun c2 => ?_) (fun c2 => ?_)
    · have hw := hw.1 c2
      refine lv_aload_n hx hb dX8_pass_14 rfl (lv_at hl 0 rfl) ?_
      refine g_get (v := .ref (ad 1 0)) hx hb hts hown hK hP (hLx.h (f := 0) (by decide)) (gC0 _ _ _ _) gcl8 iX8_pass_X8 0 (by decide) mX8_pass_1 rfl rfl dX8_pass_15 ?_
      refine g_getN (v := .int (M0 1 0 2)) hx hb hts hown hK hN hP (hLx.h (f := 1) (by decide)) (gC1 _ _ _ _) gcl4 iX8_pass_X4 2 (by decide) 19 rfl rfl rfl dX8_pass_18 ?_
      refine lv_iload_n hx hb dX8_pass_21 rfl (lv_at hl 1 rfl) ?_
      refine lv_iadd hx hb dX8_pass_22 ?_
      refine lv_sipush (v := (999 : Int32)) hx hb dX8_pass_23 (by decide) ?_
      refine lv_icmp_le (tgt := 32) hx hb dX8_pass_26 (by decide) (fun c3 => ?_) (fun c3 => ?_)
      · have hw := hw.1 c3
        refine lv_aload_n hx hb dX8_pass_32 rfl (lv_at hl 0 rfl) ?_
        refine g_get (v := .ref (ad 10 0)) hx hb hts hown hK hP (hLx.h (f := 0) (by decide)) (gC0 _ _ _ _) gcl8 iX8_pass_X8 3 (by decide) mX8_pass_2 rfl rfl dX8_pass_33 ?_
        refine lv_aload_n hx hb dX8_pass_36 rfl (lv_at hl 0 rfl) ?_
        refine g_get (v := .ref (ad 1 0)) hx hb hts hown hK hP (hLx.h (f := 0) (by decide)) (gC0 _ _ _ _) gcl8 iX8_pass_X8 0 (by decide) mX8_pass_1 rfl rfl dX8_pass_37 ?_
        refine g_Vv (As := [.ref (ad 1 0)]) (rest := []) S hK hN hP hS (qX0_remember l D E ad L A hF hLx M0 0 (by decide) _ hw) (cwV 1 hts gX8_pass_X0_remember rfl rfl rfl eX0_remember ⟨Nat.le_of_ble_eq_true rfl, Nat.le_of_ble_eq_true rfl⟩) (hLx.h (f := 10) (by decide)) (gC10 _ _ _ _) gcl0 rfl rfl rfl hl.1 (Nat.le_of_ble_eq_true rfl) ⟨Nat.zero_le _, Nat.zero_le _⟩ dX8_pass_40 (fun M4 H locs hw hP hS => ?_)
        refine lv_aload_n hx hb dX8_pass_43 rfl (lv_at hl 0 rfl) ?_
        refine g_get (v := .ref (ad 1 0)) hx hb hts hown hK hP (hLx.h (f := 0) (by decide)) (gC0 _ _ _ _) gcl8 iX8_pass_X8 0 (by decide) mX8_pass_1 rfl rfl dX8_pass_44 ?_
        refine lv_dup hx hb dX8_pass_47 rfl ?_
        refine g_getN (v := .int (M4 1 0 2)) hx hb hts hown hK hN hP (hLx.h (f := 1) (by decide)) (gC1 _ _ _ _) gcl4 iX8_pass_X4 2 (by decide) 19 rfl rfl rfl dX8_pass_48 ?_
        refine lv_iload_n hx hb dX8_pass_51 rfl (lv_at hl 1 rfl) ?_
        refine lv_iadd hx hb dX8_pass_52 ?_
        refine g_putN hx hb hF hts hown hK hN hP hS (hLx.h (f := 1) (by decide)) (gC1 _ _ _ _) gcl4 iX8_pass_X4 tyX4 tyX4_ok nmX4 2 (by decide) 19 rfl rfl rfl rfl rfl (Nat.lt_of_lt_of_eq (by decide : 2 < 7) rfl) rfl dX8_pass_53 (fun M5 e6 H locs hP hS => ?_)
        have hw := hw M5 e6
        refine lv_aload_n hx hb dX8_pass_56 rfl (lv_at hl 0 rfl) ?_
        refine g_get (v := .ref (ad 1 0)) hx hb hts hown hK hP (hLx.h (f := 0) (by decide)) (gC0 _ _ _ _) gcl8 iX8_pass_X8 0 (by decide) mX8_pass_1 rfl rfl dX8_pass_57 ?_
        refine g_getN (v := .ref (ad 2 0)) hx hb hts hown hK hN hP (hLx.h (f := 1) (by decide)) (gC1 _ _ _ _) gcl4 iX8_pass_X4 0 (by decide) 15 rfl rfl rfl dX8_pass_60 ?_
        refine lv_iload_n hx hb dX8_pass_63 rfl (lv_at hl 1 rfl) ?_
        refine g_Vi (As := [.int a1]) (rest := []) S hK hN hP hS (qX1_fade l D E ad L A hF hLx M5 0 a1 (by decide) _ hw) (cwV 1 hts gX8_pass_X1_fade rfl rfl rfl eX1_fade ⟨Nat.le_of_ble_eq_true rfl, Nat.le_of_ble_eq_true rfl⟩) (hLx.h (f := 2) (by decide)) (gC2 _ _ _ _) gcl1 rfl rfl rfl hl.1 (Nat.le_of_ble_eq_true rfl) ⟨Nat.zero_le _, Nat.zero_le _⟩ dX8_pass_64 (fun r8 M7 H locs hw hP hS => ?_)
        exact g_iret hx hb hr hlocks hw hP hS dX8_pass_67
      · have hw := hw.2 c3
        refine lv_bipush (v := (-3 : Int32)) hx hb dX8_pass_29 (by decide) ?_
        exact g_iret hx hb hr hlocks hw hP hS dX8_pass_31
    · have hw := hw.2 c2
      refine lv_bipush (v := (-2 : Int32)) hx hb dX8_pass_11 (by decide) ?_
      exact g_iret hx hb hr hlocks hw hP hS dX8_pass_13
abbrev rmX8_setUntried : Room := { frames := 5, cells := 0, slots := 0, locals := 103 }
theorem eX8_setUntried : yX8_setUntried.cls = RX8 ∧ yX8_setUntried.cls ≠ "java/lang/invoke/MethodHandle" ∧ yX8_setUntried.cls ≠ "java/lang/invoke/VarHandle" ∧ (parseMethodDescriptor yX8_setUntried.desc).map (fun d => d.parameters.length) = some 1 := by decide +kernel
theorem iX8_setUntried_X8 : ∀ w ∈ wsX80, w ∈ wsX8_setUntried := fun _ h => List.mem_cons_of_mem _ (List.mem_append_left _ (List.mem_append_left _ (List.mem_append_left _ (List.mem_append_left _ (List.mem_append_left _ (List.mem_append_right _ (h)))))))
theorem mX8_setUntried_1 : Cond.fieldLink RX8 12 "PracticeSheets" "now" "LPracticeSheets$State;" ∈ wsX8_setUntried := List.mem_of_getElem? (i := 1) rfl
theorem iX8_setUntried_X4 : ∀ w ∈ wsX40, w ∈ wsX8_setUntried := fun _ h => List.mem_cons_of_mem _ (List.mem_append_left _ (List.mem_append_left _ (List.mem_append_left _ (List.mem_append_left _ (List.mem_append_right _ (h))))))
theorem mX8_setUntried_2 : Cond.fieldLink RX8 25 "PracticeSheets" "history" "LPracticeSheets$History;" ∈ wsX8_setUntried := List.mem_of_getElem? (i := 2) rfl
set_option maxHeartbeats 4000000 in
set_option maxRecDepth 100000 in
theorem qX8_setUntried (l : Launch) (D : va_G) (E : Nat → ClassId) (ad : Nat → Nat → Nat) (L : List (Nat × Nat)) (A : Nat → Prop) (hF : gF E ad L A) (hLx : gLx L) (M0 : gW) (a1 : Int32)  (K : Int32 → gW → Prop) (hw : wX8_setUntried M0 a1 K) : Met l yX8_setUntried wsX8_setUntried rmX8_setUntried (va_Pc [.ref (ad 0 0), .int a1] (gPre D E ad L M0)) (gQi D E ad L A K) 0 0 A := by
  refine Met.ofW (cc := cX8_setUntried) (maxL := 3) (ret := (some .int)) (by decide) rfl ?_
  intro p e s m args below meth c s₁ B hml hv
  obtain ⟨rfl, hP, hK, hN⟩ := hv
  have hx := B.exec
  have hb := B.bytes
  have hr := B.returns
  have hts := atoms_spec (ws := wsX8_setUntried) B.pre
  have hown : s.vm.findClass RX8 = some m.cls := findClass_of_methodNamed B.named
  have hlocks := B.notSynchronized
  have S : CallFix p m c cX8_setUntried 3 s ([.ref (ad 0 0), .int a1] : List Value).toArray wsX8_setUntried RX8 := ⟨hx, hb, hml, hown, hts⟩
  have hS : va_S A s.heap s.heap [] := va_S.rf
  have hl := lv_entry ([.ref (ad 0 0), .int a1]) (n := 3) (Nat.le_of_ble_eq_true rfl)
  rw [lg_entry_eq]
  generalize (lg_sl ([.ref (ad 0 0), .int a1]) ++ List.replicate (3 - (lg_sl ([.ref (ad 0 0), .int a1])).length) Slot.unset).toArray = ls at hl ⊢
  have hl : lv_has ls 3 [(0, .ref (ad 0 0)), (1, .int a1)] := hl
  refine lv_iload_n hx hb dX8_setUntried_0 rfl (lv_at hl 1 rfl) ?_
  refine lv_if_lt (tgt := 10) hx hb dX8_setUntried_1 (by decide) (fun c1 => ?_) (fun c1 => ?_)
  · have hw := hw.1 c1
    refine lv_bipush (v := (-2 : Int32)) hx hb dX8_setUntried_10 (by decide) ?_
    exact g_iret hx hb hr hlocks hw hP hS dX8_setUntried_12
  · have hw := hw.2 c1
    refine lv_iload_n hx hb dX8_setUntried_4 rfl (lv_at hl 1 rfl) ?_
    refine lv_bipush (v := (99 : Int32)) hx hb dX8_setUntried_5 (by decide) ?_
    refine lv_icmp_le (tgt := 13) hx hb dX8_setUntried_7 (by decide) (fun c2 => ?_) (fun c2 => ?_)
    · have hw := hw.1 c2
      refine lv_aload_n hx hb dX8_setUntried_13 rfl (lv_at hl 0 rfl) ?_
      refine g_get (v := .ref (ad 1 0)) hx hb hts hown hK hP (hLx.h (f := 0) (by decide)) (gC0 _ _ _ _) gcl8 iX8_setUntried_X8 0 (by decide) mX8_setUntried_1 rfl rfl dX8_setUntried_14 ?_
      refine g_getN (v := .int (M0 1 0 3)) hx hb hts hown hK hN hP (hLx.h (f := 1) (by decide)) (gC1 _ _ _ _) gcl4 iX8_setUntried_X4 3 (by decide) 20 rfl rfl rfl dX8_setUntried_17 ?_
      refine lv_istore_n (lv' := [(2, .int (M0 1 0 3)), (0, .ref (ad 0 0)), (1, .int a1)]) hx hb dX8_setUntried_20 rfl hl (by decide) rfl (fun ls hl => ?_)
      refine lv_iload_n hx hb dX8_setUntried_21 rfl (lv_at hl 2 rfl) ?_
      refine lv_iload_n hx hb dX8_setUntried_22 rfl (lv_at hl 0 rfl) ?_
      refine lv_icmp_ne (tgt := 29) hx hb dX8_setUntried_23 (by decide) (fun c3 => ?_) (fun c3 => ?_)
      · have hw := hw.2 c3
        refine lv_aload_n hx hb dX8_setUntried_29 rfl (lv_at hl 1 rfl) ?_
        refine g_get (v := .ref (ad 10 0)) hx hb hts hown hK hP (hLx.h (f := 0) (by decide)) (gC0 _ _ _ _) gcl8 iX8_setUntried_X8 3 (by decide) mX8_setUntried_2 rfl rfl dX8_setUntried_30 ?_
        refine lv_aload_n hx hb dX8_setUntried_33 rfl (lv_at hl 1 rfl) ?_
        refine g_get (v := .ref (ad 1 0)) hx hb hts hown hK hP (hLx.h (f := 0) (by decide)) (gC0 _ _ _ _) gcl8 iX8_setUntried_X8 0 (by decide) mX8_setUntried_1 rfl rfl dX8_setUntried_34 ?_
        refine g_Vv (As := [.ref (ad 1 0)]) (rest := []) S hK hN hP hS (qX0_remember l D E ad L A hF hLx M0 0 (by decide) _ hw) (cwV 1 hts gX8_setUntried_X0_remember rfl rfl rfl eX0_remember ⟨Nat.le_of_ble_eq_true rfl, Nat.le_of_ble_eq_true rfl⟩) (hLx.h (f := 10) (by decide)) (gC10 _ _ _ _) gcl0 rfl rfl rfl hl.1 (Nat.le_of_ble_eq_true rfl) ⟨Nat.zero_le _, Nat.zero_le _⟩ dX8_setUntried_37 (fun M4 H locs hw hP hS => ?_)
        refine lv_aload_n hx hb dX8_setUntried_40 rfl (lv_at hl 1 rfl) ?_
        refine g_get (v := .ref (ad 1 0)) hx hb hts hown hK hP (hLx.h (f := 0) (by decide)) (gC0 _ _ _ _) gcl8 iX8_setUntried_X8 0 (by decide) mX8_setUntried_1 rfl rfl dX8_setUntried_41 ?_
        refine lv_iload_n hx hb dX8_setUntried_44 rfl (lv_at hl 2 rfl) ?_
        refine g_putN hx hb hF hts hown hK hN hP hS (hLx.h (f := 1) (by decide)) (gC1 _ _ _ _) gcl4 iX8_setUntried_X4 tyX4 tyX4_ok nmX4 3 (by decide) 20 rfl rfl rfl rfl rfl (Nat.lt_of_lt_of_eq (by decide : 3 < 7) rfl) rfl dX8_setUntried_45 (fun M5 e6 H locs hP hS => ?_)
        have hw := hw M5 e6
        refine lv_iload_n hx hb dX8_setUntried_48 rfl (lv_at hl 0 rfl) ?_
        exact g_iret hx hb hr hlocks hw hP hS dX8_setUntried_49
      · have hw := hw.1 c3
        refine lv_bipush (v := (-5 : Int32)) hx hb dX8_setUntried_26 (by decide) ?_
        exact g_iret hx hb hr hlocks hw hP hS dX8_setUntried_28
    · have hw := hw.2 c2
      refine lv_bipush (v := (-2 : Int32)) hx hb dX8_setUntried_10 (by decide) ?_
      exact g_iret hx hb hr hlocks hw hP hS dX8_setUntried_12
abbrev rmX8_addWords : Room := { frames := 5, cells := 0, slots := 0, locals := 103 }
theorem eX8_addWords : yX8_addWords.cls = RX8 ∧ yX8_addWords.cls ≠ "java/lang/invoke/MethodHandle" ∧ yX8_addWords.cls ≠ "java/lang/invoke/VarHandle" ∧ (parseMethodDescriptor yX8_addWords.desc).map (fun d => d.parameters.length) = some 0 := by decide +kernel
theorem iX8_addWords_X8 : ∀ w ∈ wsX80, w ∈ wsX8_addWords := fun _ h => List.mem_cons_of_mem _ (List.mem_append_left _ (List.mem_append_left _ (List.mem_append_left _ (List.mem_append_left _ (List.mem_append_left _ (List.mem_append_left _ (List.mem_append_right _ (h))))))))
theorem mX8_addWords_1 : Cond.fieldLink RX8 32 "PracticeSheets" "text" "LPracticeSheets$Text;" ∈ wsX8_addWords := List.mem_of_getElem? (i := 1) rfl
theorem mX8_addWords_2 : Cond.fieldLink RX8 19 "PracticeSheets" "trial" "LPracticeSheets$State;" ∈ wsX8_addWords := List.mem_of_getElem? (i := 2) rfl
theorem iX8_addWords_X4 : ∀ w ∈ wsX40, w ∈ wsX8_addWords := fun _ h => List.mem_cons_of_mem _ (List.mem_append_left _ (List.mem_append_left _ (List.mem_append_left _ (List.mem_append_left _ (List.mem_append_left _ (List.mem_append_right _ (h)))))))
theorem mX8_addWords_3 : Cond.fieldLink RX8 12 "PracticeSheets" "now" "LPracticeSheets$State;" ∈ wsX8_addWords := List.mem_of_getElem? (i := 3) rfl
theorem iX8_addWords_X7 : ∀ w ∈ wsX70, w ∈ wsX8_addWords := fun _ h => List.mem_cons_of_mem _ (List.mem_append_left _ (List.mem_append_left _ (List.mem_append_left _ (List.mem_append_left _ (List.mem_append_right _ (h))))))
theorem mX8_addWords_4 : Cond.fieldLink RX8 25 "PracticeSheets" "history" "LPracticeSheets$History;" ∈ wsX8_addWords := List.mem_of_getElem? (i := 4) rfl
set_option maxHeartbeats 4000000 in
set_option maxRecDepth 100000 in
theorem qX8_addWords (l : Launch) (D : va_G) (E : Nat → ClassId) (ad : Nat → Nat → Nat) (L : List (Nat × Nat)) (A : Nat → Prop) (hF : gF E ad L A) (hLx : gLx L) (M0 : gW)  (K : Int32 → gW → Prop) (hw : wX8_addWords M0 K) : Met l yX8_addWords wsX8_addWords rmX8_addWords (va_Pc [.ref (ad 0 0)] (gPre D E ad L M0)) (gQi D E ad L A K) 0 0 A := by
  refine Met.ofW (cc := cX8_addWords) (maxL := 4) (ret := (some .int)) (by decide) rfl ?_
  intro p e s m args below meth c s₁ B hml hv
  obtain ⟨rfl, hP, hK, hN⟩ := hv
  have hx := B.exec
  have hb := B.bytes
  have hr := B.returns
  have hts := atoms_spec (ws := wsX8_addWords) B.pre
  have hown : s.vm.findClass RX8 = some m.cls := findClass_of_methodNamed B.named
  have hlocks := B.notSynchronized
  have S : CallFix p m c cX8_addWords 4 s ([.ref (ad 0 0)] : List Value).toArray wsX8_addWords RX8 := ⟨hx, hb, hml, hown, hts⟩
  have hS : va_S A s.heap s.heap [] := va_S.rf
  have hl := lv_entry ([.ref (ad 0 0)]) (n := 4) (Nat.le_of_ble_eq_true rfl)
  rw [lg_entry_eq]
  generalize (lg_sl ([.ref (ad 0 0)]) ++ List.replicate (4 - (lg_sl ([.ref (ad 0 0)])).length) Slot.unset).toArray = ls at hl ⊢
  have hl : lv_has ls 4 [(0, .ref (ad 0 0))] := hl
  refine lv_aload_n hx hb dX8_addWords_0 rfl (lv_at hl 0 rfl) ?_
  refine g_get (v := .ref (ad 12 0)) hx hb hts hown hK hP (hLx.h (f := 0) (by decide)) (gC0 _ _ _ _) gcl8 iX8_addWords_X8 4 (by decide) mX8_addWords_1 rfl rfl dX8_addWords_1 ?_
  refine g_Vi (As := []) (rest := []) S hK hN hP hS (qX5_faultAsWords l D E ad L A hF hLx M0  _ hw) (cwV 0 hts gX8_addWords_X5_faultAsWords rfl rfl rfl eX5_faultAsWords ⟨Nat.le_of_ble_eq_true rfl, Nat.le_of_ble_eq_true rfl⟩) (hLx.h (f := 12) (by decide)) (gC12 _ _ _ _) gcl5 rfl rfl rfl hl.1 (Nat.le_of_ble_eq_true rfl) ⟨Nat.zero_le _, Nat.zero_le _⟩ dX8_addWords_4 (fun r2 M1 H locs hw hP hS => ?_)
  refine lv_istore_n (lv' := [(1, .int r2), (0, .ref (ad 0 0))]) hx hb dX8_addWords_7 rfl hl (by decide) rfl (fun ls hl => ?_)
  refine lv_iload_n hx hb dX8_addWords_8 rfl (lv_at hl 0 rfl) ?_
  refine lv_iconst (v := (-1 : Int32)) hx hb dX8_addWords_9 (by decide) ?_
  refine lv_icmp_eq (tgt := 18) hx hb dX8_addWords_10 (by decide) (fun c3 => ?_) (fun c3 => ?_)
  · have hw := hw.1 c3
    refine lv_aload_n hx hb dX8_addWords_18 rfl (lv_at hl 1 rfl) ?_
    refine g_get (v := .ref (ad 1 2)) hx hb hts hown hK hP (hLx.h (f := 0) (by decide)) (gC0 _ _ _ _) gcl8 iX8_addWords_X8 2 (by decide) mX8_addWords_2 rfl rfl dX8_addWords_19 ?_
    refine g_getN (v := .ref (ad 5 2)) hx hb hts hown hK hN hP (hLx.h (f := 1) (by decide)) (gC1 _ _ _ _) gcl4 iX8_addWords_X4 1 (by decide) 18 rfl rfl rfl dX8_addWords_22 ?_
    refine lv_astore_n (lv' := [(2, .ref (ad 5 2)), (1, .int r2), (0, .ref (ad 0 0))]) hx hb dX8_addWords_25 rfl hl (by decide) rfl (fun ls hl => ?_)
    refine lv_aload_n hx hb dX8_addWords_26 rfl (lv_at hl 0 rfl) ?_
    refine lv_aload_n hx hb dX8_addWords_27 rfl (lv_at hl 2 rfl) ?_
    refine g_get (v := .ref (ad 1 0)) hx hb hts hown hK hP (hLx.h (f := 0) (by decide)) (gC0 _ _ _ _) gcl8 iX8_addWords_X8 0 (by decide) mX8_addWords_3 rfl rfl dX8_addWords_28 ?_
    refine g_getN (v := .ref (ad 5 0)) hx hb hts hown hK hN hP (hLx.h (f := 1) (by decide)) (gC1 _ _ _ _) gcl4 iX8_addWords_X4 1 (by decide) 18 rfl rfl rfl dX8_addWords_31 ?_
    refine g_Vv (As := [.ref (ad 5 0)]) (rest := []) S hK hN hP hS (qX7_copyFrom l D E ad L A hF hLx M1 2 0 (by decide) (by decide) _ hw) (cwV 1 hts gX8_addWords_X7_copyFrom rfl rfl rfl eX7_copyFrom ⟨Nat.le_of_ble_eq_true rfl, Nat.le_of_ble_eq_true rfl⟩) (hLx.h (f := 5) (by decide)) (gC5 _ _ _ _) gcl7 rfl rfl rfl hl.1 (Nat.le_of_ble_eq_true rfl) ⟨Nat.zero_le _, Nat.zero_le _⟩ dX8_addWords_34 (fun M4 H locs hw hP hS => ?_)
    refine lv_aload_n hx hb dX8_addWords_37 rfl (lv_at hl 2 rfl) ?_
    refine g_get (v := .ref (ad 12 0)) hx hb hts hown hK hP (hLx.h (f := 0) (by decide)) (gC0 _ _ _ _) gcl8 iX8_addWords_X8 4 (by decide) mX8_addWords_1 rfl rfl dX8_addWords_38 ?_
    refine lv_aload_n hx hb dX8_addWords_41 rfl (lv_at hl 0 rfl) ?_
    refine g_Vi (As := [.ref (ad 5 2)]) (rest := []) S hK hN hP hS (qX5_spellInto l D E ad L A hF hLx M4 2 (by decide) _ hw) (cwV 1 hts gX8_addWords_X5_spellInto rfl rfl rfl eX5_spellInto ⟨Nat.le_of_ble_eq_true rfl, Nat.le_of_ble_eq_true rfl⟩) (hLx.h (f := 12) (by decide)) (gC12 _ _ _ _) gcl5 rfl rfl rfl hl.1 (Nat.le_of_ble_eq_true rfl) ⟨Nat.zero_le _, Nat.zero_le _⟩ dX8_addWords_42 (fun r6 M5 H locs hw hP hS => ?_)
    refine lv_if_ne (tgt := 51) hx hb dX8_addWords_45 (by decide) (fun c7 => ?_) (fun c7 => ?_)
    · have hw := hw.2 c7
      refine lv_aload_n hx hb dX8_addWords_51 rfl (lv_at hl 0 rfl) ?_
      refine g_getN (v := .int (M5 5 2 1)) hx hb hts hown hK hN hP (hLx.h (f := 5) (by decide)) (gC5 _ _ _ _) gcl7 iX8_addWords_X7 1 (by decide) 14 rfl rfl rfl dX8_addWords_52 ?_
      refine lv_aload_n hx hb dX8_addWords_55 rfl (lv_at hl 2 rfl) ?_
      refine g_get (v := .ref (ad 1 0)) hx hb hts hown hK hP (hLx.h (f := 0) (by decide)) (gC0 _ _ _ _) gcl8 iX8_addWords_X8 0 (by decide) mX8_addWords_3 rfl rfl dX8_addWords_56 ?_
      refine g_getN (v := .ref (ad 5 0)) hx hb hts hown hK hN hP (hLx.h (f := 1) (by decide)) (gC1 _ _ _ _) gcl4 iX8_addWords_X4 1 (by decide) 18 rfl rfl rfl dX8_addWords_59 ?_
      refine g_getN (v := .int (M5 5 0 1)) hx hb hts hown hK hN hP (hLx.h (f := 5) (by decide)) (gC5 _ _ _ _) gcl7 iX8_addWords_X7 1 (by decide) 14 rfl rfl rfl dX8_addWords_62 ?_
      refine lv_isub hx hb dX8_addWords_65 ?_
      refine lv_istore_n (lv' := [(3, .int ((M5 5 2 1) - (M5 5 0 1))), (2, .ref (ad 5 2)), (1, .int r2), (0, .ref (ad 0 0))]) hx hb dX8_addWords_66 rfl hl (by decide) rfl (fun ls hl => ?_)
      refine lv_iload_n hx hb dX8_addWords_67 rfl (lv_at hl 0 rfl) ?_
      refine lv_if_ne (tgt := 74) hx hb dX8_addWords_68 (by decide) (fun c8 => ?_) (fun c8 => ?_)
      · have hw := hw.2 c8
        refine lv_aload_n hx hb dX8_addWords_74 rfl (lv_at hl 3 rfl) ?_
        refine g_get (v := .ref (ad 10 0)) hx hb hts hown hK hP (hLx.h (f := 0) (by decide)) (gC0 _ _ _ _) gcl8 iX8_addWords_X8 3 (by decide) mX8_addWords_4 rfl rfl dX8_addWords_75 ?_
        refine lv_aload_n hx hb dX8_addWords_78 rfl (lv_at hl 3 rfl) ?_
        refine g_get (v := .ref (ad 1 0)) hx hb hts hown hK hP (hLx.h (f := 0) (by decide)) (gC0 _ _ _ _) gcl8 iX8_addWords_X8 0 (by decide) mX8_addWords_3 rfl rfl dX8_addWords_79 ?_
        refine g_Vv (As := [.ref (ad 1 0)]) (rest := []) S hK hN hP hS (qX0_remember l D E ad L A hF hLx M5 0 (by decide) _ hw) (cwV 1 hts gX8_addWords_X0_remember rfl rfl rfl eX0_remember ⟨Nat.le_of_ble_eq_true rfl, Nat.le_of_ble_eq_true rfl⟩) (hLx.h (f := 10) (by decide)) (gC10 _ _ _ _) gcl0 rfl rfl rfl hl.1 (Nat.le_of_ble_eq_true rfl) ⟨Nat.zero_le _, Nat.zero_le _⟩ dX8_addWords_82 (fun M9 H locs hw hP hS => ?_)
        refine lv_aload_n hx hb dX8_addWords_85 rfl (lv_at hl 3 rfl) ?_
        refine g_get (v := .ref (ad 1 0)) hx hb hts hown hK hP (hLx.h (f := 0) (by decide)) (gC0 _ _ _ _) gcl8 iX8_addWords_X8 0 (by decide) mX8_addWords_3 rfl rfl dX8_addWords_86 ?_
        refine g_getN (v := .ref (ad 5 0)) hx hb hts hown hK hN hP (hLx.h (f := 1) (by decide)) (gC1 _ _ _ _) gcl4 iX8_addWords_X4 1 (by decide) 18 rfl rfl rfl dX8_addWords_89 ?_
        refine lv_aload_n hx hb dX8_addWords_92 rfl (lv_at hl 1 rfl) ?_
        refine g_Vv (As := [.ref (ad 5 2)]) (rest := []) S hK hN hP hS (qX7_copyFrom l D E ad L A hF hLx M9 0 2 (by decide) (by decide) _ hw) (cwV 1 hts gX8_addWords_X7_copyFrom rfl rfl rfl eX7_copyFrom ⟨Nat.le_of_ble_eq_true rfl, Nat.le_of_ble_eq_true rfl⟩) (hLx.h (f := 5) (by decide)) (gC5 _ _ _ _) gcl7 rfl rfl rfl hl.1 (Nat.le_of_ble_eq_true rfl) ⟨Nat.zero_le _, Nat.zero_le _⟩ dX8_addWords_93 (fun M10 H locs hw hP hS => ?_)
        refine lv_iload_n hx hb dX8_addWords_96 rfl (lv_at hl 0 rfl) ?_
        exact g_iret hx hb hr hlocks hw hP hS dX8_addWords_97
      · have hw := hw.1 c8
        refine lv_bipush (v := (-5 : Int32)) hx hb dX8_addWords_71 (by decide) ?_
        exact g_iret hx hb hr hlocks hw hP hS dX8_addWords_73
    · have hw := hw.1 c7
      refine lv_bipush (v := (-3 : Int32)) hx hb dX8_addWords_48 (by decide) ?_
      exact g_iret hx hb hr hlocks hw hP hS dX8_addWords_50
  · have hw := hw.2 c3
    refine lv_bipush (v := (-100 : Int32)) hx hb dX8_addWords_13 (by decide) ?_
    refine lv_iload_n hx hb dX8_addWords_15 rfl (lv_at hl 0 rfl) ?_
    refine lv_isub hx hb dX8_addWords_16 ?_
    exact g_iret hx hb hr hlocks hw hP hS dX8_addWords_17
abbrev rmX8_removeWord : Room := { frames := 5, cells := 0, slots := 0, locals := 103 }
theorem eX8_removeWord : yX8_removeWord.cls = RX8 ∧ yX8_removeWord.cls ≠ "java/lang/invoke/MethodHandle" ∧ yX8_removeWord.cls ≠ "java/lang/invoke/VarHandle" ∧ (parseMethodDescriptor yX8_removeWord.desc).map (fun d => d.parameters.length) = some 1 := by decide +kernel
theorem iX8_removeWord_X8 : ∀ w ∈ wsX80, w ∈ wsX8_removeWord := fun _ h => List.mem_cons_of_mem _ (List.mem_append_left _ (List.mem_append_left _ (List.mem_append_left _ (List.mem_append_left _ (List.mem_append_left _ (List.mem_append_right _ (h)))))))
theorem mX8_removeWord_1 : Cond.fieldLink RX8 12 "PracticeSheets" "now" "LPracticeSheets$State;" ∈ wsX8_removeWord := List.mem_of_getElem? (i := 1) rfl
theorem iX8_removeWord_X4 : ∀ w ∈ wsX40, w ∈ wsX8_removeWord := fun _ h => List.mem_cons_of_mem _ (List.mem_append_left _ (List.mem_append_left _ (List.mem_append_left _ (List.mem_append_left _ (List.mem_append_right _ (h))))))
theorem mX8_removeWord_2 : Cond.fieldLink RX8 25 "PracticeSheets" "history" "LPracticeSheets$History;" ∈ wsX8_removeWord := List.mem_of_getElem? (i := 2) rfl
theorem iX8_removeWord_X7 : ∀ w ∈ wsX70, w ∈ wsX8_removeWord := fun _ h => List.mem_cons_of_mem _ (List.mem_append_left _ (List.mem_append_left _ (List.mem_append_left _ (List.mem_append_right _ (h)))))
set_option maxHeartbeats 4000000 in
set_option maxRecDepth 100000 in
theorem qX8_removeWord (l : Launch) (D : va_G) (E : Nat → ClassId) (ad : Nat → Nat → Nat) (L : List (Nat × Nat)) (A : Nat → Prop) (hF : gF E ad L A) (hLx : gLx L) (M0 : gW) (a1 : Int32)  (K : Int32 → gW → Prop) (hw : wX8_removeWord M0 a1 K) : Met l yX8_removeWord wsX8_removeWord rmX8_removeWord (va_Pc [.ref (ad 0 0), .int a1] (gPre D E ad L M0)) (gQi D E ad L A K) 0 0 A := by
  refine Met.ofW (cc := cX8_removeWord) (maxL := 2) (ret := (some .int)) (by decide) rfl ?_
  intro p e s m args below meth c s₁ B hml hv
  obtain ⟨rfl, hP, hK, hN⟩ := hv
  have hx := B.exec
  have hb := B.bytes
  have hr := B.returns
  have hts := atoms_spec (ws := wsX8_removeWord) B.pre
  have hown : s.vm.findClass RX8 = some m.cls := findClass_of_methodNamed B.named
  have hlocks := B.notSynchronized
  have S : CallFix p m c cX8_removeWord 2 s ([.ref (ad 0 0), .int a1] : List Value).toArray wsX8_removeWord RX8 := ⟨hx, hb, hml, hown, hts⟩
  have hS : va_S A s.heap s.heap [] := va_S.rf
  have hl := lv_entry ([.ref (ad 0 0), .int a1]) (n := 2) (Nat.le_of_ble_eq_true rfl)
  rw [lg_entry_eq]
  generalize (lg_sl ([.ref (ad 0 0), .int a1]) ++ List.replicate (2 - (lg_sl ([.ref (ad 0 0), .int a1])).length) Slot.unset).toArray = ls at hl ⊢
  have hl : lv_has ls 2 [(0, .ref (ad 0 0)), (1, .int a1)] := hl
  refine lv_aload_n hx hb dX8_removeWord_0 rfl (lv_at hl 0 rfl) ?_
  refine g_get (v := .ref (ad 1 0)) hx hb hts hown hK hP (hLx.h (f := 0) (by decide)) (gC0 _ _ _ _) gcl8 iX8_removeWord_X8 0 (by decide) mX8_removeWord_1 rfl rfl dX8_removeWord_1 ?_
  refine g_getN (v := .ref (ad 5 0)) hx hb hts hown hK hN hP (hLx.h (f := 1) (by decide)) (gC1 _ _ _ _) gcl4 iX8_removeWord_X4 1 (by decide) 18 rfl rfl rfl dX8_removeWord_4 ?_
  refine lv_iload_n hx hb dX8_removeWord_7 rfl (lv_at hl 1 rfl) ?_
  refine g_Vq (As := [.int a1]) (rest := []) S hK hN hP hS (qX7_at l D E ad L A hF hLx M0 0 a1 (by decide) _ hw) (cwV 1 hts gX8_removeWord_X7_at rfl rfl rfl eX7_at ⟨Nat.le_of_ble_eq_true rfl, Nat.le_of_ble_eq_true rfl⟩) (hLx.h (f := 5) (by decide)) (gC5 _ _ _ _) gcl7 rfl rfl rfl hl.1 (Nat.le_of_ble_eq_true rfl) ⟨Nat.zero_le _, Nat.zero_le _⟩ dX8_removeWord_8 (fun M1 H locs hw hP hS => ?_) (fun o2 M1 H locs hw hP hS => ?_)
  · have hw := hw.1 rfl
    refine lv_ifnonnullN hx hb dX8_removeWord_11 ?_
    refine lv_iconst (v := (-1 : Int32)) hx hb dX8_removeWord_14 (by decide) ?_
    exact g_iret hx hb hr hlocks hw hP hS dX8_removeWord_15
  · have hw := hw.2 o2 rfl
    have hb4 := hw.1
    have hw := hw.2
    refine lv_ifnonnull (tgt := 16) hx hb dX8_removeWord_11 (by decide) ?_
    refine lv_aload_n hx hb dX8_removeWord_16 rfl (lv_at hl 0 rfl) ?_
    refine g_get (v := .ref (ad 10 0)) hx hb hts hown hK hP (hLx.h (f := 0) (by decide)) (gC0 _ _ _ _) gcl8 iX8_removeWord_X8 3 (by decide) mX8_removeWord_2 rfl rfl dX8_removeWord_17 ?_
    refine lv_aload_n hx hb dX8_removeWord_20 rfl (lv_at hl 0 rfl) ?_
    refine g_get (v := .ref (ad 1 0)) hx hb hts hown hK hP (hLx.h (f := 0) (by decide)) (gC0 _ _ _ _) gcl8 iX8_removeWord_X8 0 (by decide) mX8_removeWord_1 rfl rfl dX8_removeWord_21 ?_
    refine g_Vv (As := [.ref (ad 1 0)]) (rest := []) S hK hN hP hS (qX0_remember l D E ad L A hF hLx M1 0 (by decide) _ hw) (cwV 1 hts gX8_removeWord_X0_remember rfl rfl rfl eX0_remember ⟨Nat.le_of_ble_eq_true rfl, Nat.le_of_ble_eq_true rfl⟩) (hLx.h (f := 10) (by decide)) (gC10 _ _ _ _) gcl0 rfl rfl rfl hl.1 (Nat.le_of_ble_eq_true rfl) ⟨Nat.zero_le _, Nat.zero_le _⟩ dX8_removeWord_24 (fun M5 H locs hw hP hS => ?_)
    refine lv_aload_n hx hb dX8_removeWord_27 rfl (lv_at hl 0 rfl) ?_
    refine g_get (v := .ref (ad 1 0)) hx hb hts hown hK hP (hLx.h (f := 0) (by decide)) (gC0 _ _ _ _) gcl8 iX8_removeWord_X8 0 (by decide) mX8_removeWord_1 rfl rfl dX8_removeWord_28 ?_
    refine g_getN (v := .ref (ad 5 0)) hx hb hts hown hK hN hP (hLx.h (f := 1) (by decide)) (gC1 _ _ _ _) gcl4 iX8_removeWord_X4 1 (by decide) 18 rfl rfl rfl dX8_removeWord_31 ?_
    refine lv_iload_n hx hb dX8_removeWord_34 rfl (lv_at hl 1 rfl) ?_
    refine g_Vv (As := [.int a1]) (rest := []) S hK hN hP hS (qX7_drop l D E ad L A hF hLx M5 0 a1 (by decide) _ hw) (cwV 1 hts gX8_removeWord_X7_drop rfl rfl rfl eX7_drop ⟨Nat.le_of_ble_eq_true rfl, Nat.le_of_ble_eq_true rfl⟩) (hLx.h (f := 5) (by decide)) (gC5 _ _ _ _) gcl7 rfl rfl rfl hl.1 (Nat.le_of_ble_eq_true rfl) ⟨Nat.zero_le _, Nat.zero_le _⟩ dX8_removeWord_35 (fun M6 H locs hw hP hS => ?_)
    refine lv_aload_n hx hb dX8_removeWord_38 rfl (lv_at hl 0 rfl) ?_
    refine g_get (v := .ref (ad 1 0)) hx hb hts hown hK hP (hLx.h (f := 0) (by decide)) (gC0 _ _ _ _) gcl8 iX8_removeWord_X8 0 (by decide) mX8_removeWord_1 rfl rfl dX8_removeWord_39 ?_
    refine g_getN (v := .ref (ad 5 0)) hx hb hts hown hK hN hP (hLx.h (f := 1) (by decide)) (gC1 _ _ _ _) gcl4 iX8_removeWord_X4 1 (by decide) 18 rfl rfl rfl dX8_removeWord_42 ?_
    refine g_getN (v := .int (M6 5 0 1)) hx hb hts hown hK hN hP (hLx.h (f := 5) (by decide)) (gC5 _ _ _ _) gcl7 iX8_removeWord_X7 1 (by decide) 14 rfl rfl rfl dX8_removeWord_45 ?_
    exact g_iret hx hb hr hlocks hw hP hS dX8_removeWord_48
abbrev rmX8_areLines : Room := { frames := 0, cells := 0, slots := 0, locals := 0 }
theorem eX8_areLines : yX8_areLines.cls = RX8 ∧ yX8_areLines.cls ≠ "java/lang/invoke/MethodHandle" ∧ yX8_areLines.cls ≠ "java/lang/invoke/VarHandle" ∧ (parseMethodDescriptor yX8_areLines.desc).map (fun d => d.parameters.length) = some 1 := by decide +kernel
set_option maxHeartbeats 4000000 in
set_option maxRecDepth 100000 in
theorem qX8_areLines (l : Launch) (D : va_G) (E : Nat → ClassId) (ad : Nat → Nat → Nat) (L : List (Nat × Nat)) (A : Nat → Prop) (hF : gF E ad L A) (hLx : gLx L) (M0 : gW) (a0 : Int32)  (K : Int32 → gW → Prop) (hw : wX8_areLines M0 a0 K) : Met l yX8_areLines wsX8_areLines rmX8_areLines (va_Pc [.int a0] (gPre D E ad L M0)) (gQi D E ad L A K) 0 0 A := by
  refine Met.ofW (cc := cX8_areLines) (maxL := 1) (ret := (some .boolean)) (by decide) rfl ?_
  intro p e s m args below meth c s₁ B hml hv
  obtain ⟨rfl, hP, hK, hN⟩ := hv
  have hx := B.exec
  have hb := B.bytes
  have hr := B.returns
  have hts := atoms_spec (ws := wsX8_areLines) B.pre
  have hown : s.vm.findClass RX8 = some m.cls := findClass_of_methodNamed B.named
  have hlocks := B.notSynchronized
  have S : CallFix p m c cX8_areLines 1 s ([.int a0] : List Value).toArray wsX8_areLines RX8 := ⟨hx, hb, hml, hown, hts⟩
  have hS : va_S A s.heap s.heap [] := va_S.rf
  have hl := lv_entry ([.int a0]) (n := 1) (Nat.le_of_ble_eq_true rfl)
  rw [lg_entry_eq]
  generalize (lg_sl ([.int a0]) ++ List.replicate (1 - (lg_sl ([.int a0])).length) Slot.unset).toArray = ls at hl ⊢
  have hl : lv_has ls 1 [(0, .int a0)] := hl
  refine lv_iload_n hx hb dX8_areLines_0 rfl (lv_at hl 0 rfl) ?_
  refine lv_iconst (v := (1 : Int32)) hx hb dX8_areLines_1 (by decide) ?_
  refine lv_icmp_lt (tgt := 15) hx hb dX8_areLines_2 (by decide) (fun c1 => ?_) (fun c1 => ?_)
  · have hw := hw.1 c1
    refine lv_iconst (v := (0 : Int32)) hx hb dX8_areLines_15 (by decide) ?_
    exact g_zret hx hb hr hlocks (by decide) hw hP hS dX8_areLines_16
  · have hw := hw.2 c1
    refine lv_iload_n hx hb dX8_areLines_5 rfl (lv_at hl 0 rfl) ?_
    refine lv_bipush (v := (10 : Int32)) hx hb dX8_areLines_6 (by decide) ?_
    refine lv_icmp_gt (tgt := 15) hx hb dX8_areLines_8 (by decide) (fun c2 => ?_) (fun c2 => ?_)
    · have hw := hw.1 c2
      refine lv_iconst (v := (0 : Int32)) hx hb dX8_areLines_15 (by decide) ?_
      exact g_zret hx hb hr hlocks (by decide) hw hP hS dX8_areLines_16
    · have hw := hw.2 c2
      refine lv_iconst (v := (1 : Int32)) hx hb dX8_areLines_11 (by decide) ?_
      refine lv_goto (tgt := 16) hx hb dX8_areLines_12 (by decide) ?_
      exact g_zret hx hb hr hlocks (by decide) hw hP hS dX8_areLines_16
abbrev rmX8_doSheet : Room := { frames := 6, cells := 0, slots := 0, locals := 138 }
theorem eX8_doSheet : yX8_doSheet.cls = RX8 ∧ yX8_doSheet.cls ≠ "java/lang/invoke/MethodHandle" ∧ yX8_doSheet.cls ≠ "java/lang/invoke/VarHandle" ∧ (parseMethodDescriptor yX8_doSheet.desc).map (fun d => d.parameters.length) = some 1 := by decide +kernel
theorem iX8_doSheet_X8 : ∀ w ∈ wsX80, w ∈ wsX8_doSheet := fun _ h => List.mem_cons_of_mem _ (List.mem_append_left _ (List.mem_append_left _ (List.mem_append_left _ (List.mem_append_left _ (List.mem_append_left _ (List.mem_append_left _ (List.mem_append_right _ (h))))))))
theorem mX8_doSheet_1 : Cond.fieldLink RX8 39 "PracticeSheets" "plan" "LPracticeSheets$Sheet;" ∈ wsX8_doSheet := List.mem_of_getElem? (i := 1) rfl
theorem mX8_doSheet_2 : Cond.fieldLink RX8 12 "PracticeSheets" "now" "LPracticeSheets$State;" ∈ wsX8_doSheet := List.mem_of_getElem? (i := 2) rfl
theorem iX8_doSheet_X3 : ∀ w ∈ wsX30, w ∈ wsX8_doSheet := fun _ h => List.mem_cons_of_mem _ (List.mem_append_left _ (List.mem_append_left _ (List.mem_append_left _ (List.mem_append_left _ (List.mem_append_left _ (List.mem_append_right _ (h)))))))
theorem mX8_doSheet_3 : Cond.fieldLink RX8 25 "PracticeSheets" "history" "LPracticeSheets$History;" ∈ wsX8_doSheet := List.mem_of_getElem? (i := 3) rfl
set_option maxHeartbeats 4000000 in
set_option maxRecDepth 100000 in
theorem qX8_doSheet (l : Launch) (D : va_G) (E : Nat → ClassId) (ad : Nat → Nat → Nat) (L : List (Nat × Nat)) (A : Nat → Prop) (hF : gF E ad L A) (hLx : gLx L) (M0 : gW) (a1 : Int32)  (K : Int32 → gW → Prop) (hw : wX8_doSheet M0 a1 K) : Met l yX8_doSheet wsX8_doSheet rmX8_doSheet (va_Pc [.ref (ad 0 0), .int a1] (gPre D E ad L M0)) (gQi D E ad L A K) 0 0 A := by
  refine Met.ofW (cc := cX8_doSheet) (maxL := 2) (ret := (some .int)) (by decide) rfl ?_
  intro p e s m args below meth c s₁ B hml hv
  obtain ⟨rfl, hP, hK, hN⟩ := hv
  have hx := B.exec
  have hb := B.bytes
  have hr := B.returns
  have hts := atoms_spec (ws := wsX8_doSheet) B.pre
  have hown : s.vm.findClass RX8 = some m.cls := findClass_of_methodNamed B.named
  have hlocks := B.notSynchronized
  have S : CallFix p m c cX8_doSheet 2 s ([.ref (ad 0 0), .int a1] : List Value).toArray wsX8_doSheet RX8 := ⟨hx, hb, hml, hown, hts⟩
  have hS : va_S A s.heap s.heap [] := va_S.rf
  have hl := lv_entry ([.ref (ad 0 0), .int a1]) (n := 2) (Nat.le_of_ble_eq_true rfl)
  rw [lg_entry_eq]
  generalize (lg_sl ([.ref (ad 0 0), .int a1]) ++ List.replicate (2 - (lg_sl ([.ref (ad 0 0), .int a1])).length) Slot.unset).toArray = ls at hl ⊢
  have hl : lv_has ls 2 [(0, .ref (ad 0 0)), (1, .int a1)] := hl
  refine lv_iload_n hx hb dX8_doSheet_0 rfl (lv_at hl 1 rfl) ?_
  refine g_Si (As := [.int a1]) (rest := []) S hK hN hP hS (qX8_areLines l D E ad L A hF hLx M0 a1  _ hw) (va_cwS 1 hts gX8_doSheet_X8_areLines rfl rfl rfl eX8_areLines.2 ⟨Nat.le_of_ble_eq_true rfl, Nat.le_of_ble_eq_true rfl⟩) rfl rfl hl.1 (Nat.le_of_ble_eq_true rfl) ⟨Nat.zero_le _, Nat.zero_le _⟩ dX8_doSheet_1 (fun r2 M1 H locs hw hP hS => ?_)
  refine lv_if_ne (tgt := 10) hx hb dX8_doSheet_4 (by decide) (fun c3 => ?_) (fun c3 => ?_)
  · have hw := hw.2 c3
    refine lv_aload_n hx hb dX8_doSheet_10 rfl (lv_at hl 0 rfl) ?_
    refine g_get (v := .ref (ad 14 0)) hx hb hts hown hK hP (hLx.h (f := 0) (by decide)) (gC0 _ _ _ _) gcl8 iX8_doSheet_X8 5 (by decide) mX8_doSheet_1 rfl rfl dX8_doSheet_11 ?_
    refine lv_aload_n hx hb dX8_doSheet_14 rfl (lv_at hl 0 rfl) ?_
    refine g_get (v := .ref (ad 1 0)) hx hb hts hown hK hP (hLx.h (f := 0) (by decide)) (gC0 _ _ _ _) gcl8 iX8_doSheet_X8 0 (by decide) mX8_doSheet_2 rfl rfl dX8_doSheet_15 ?_
    refine lv_iload_n hx hb dX8_doSheet_18 rfl (lv_at hl 1 rfl) ?_
    refine g_Vv (As := [.ref (ad 1 0), .int a1]) (rest := []) S hK hN hP hS (qX3_choose l D E ad L A hF hLx M1 0 a1 (by decide) _ hw) (cwV 2 hts gX8_doSheet_X3_choose rfl rfl rfl eX3_choose ⟨Nat.le_of_ble_eq_true rfl, Nat.le_of_ble_eq_true rfl⟩) (hLx.h (f := 14) (by decide)) (gC14 _ _ _ _) gcl3 rfl rfl rfl hl.1 (Nat.le_of_ble_eq_true rfl) ⟨Nat.zero_le _, Nat.zero_le _⟩ dX8_doSheet_19 (fun M4 H locs hw hP hS => ?_)
    refine lv_aload_n hx hb dX8_doSheet_22 rfl (lv_at hl 0 rfl) ?_
    refine g_get (v := .ref (ad 14 0)) hx hb hts hown hK hP (hLx.h (f := 0) (by decide)) (gC0 _ _ _ _) gcl8 iX8_doSheet_X8 5 (by decide) mX8_doSheet_1 rfl rfl dX8_doSheet_23 ?_
    refine g_getN (v := .int (M4 14 0 4)) hx hb hts hown hK hN hP (hLx.h (f := 14) (by decide)) (gC14 _ _ _ _) gcl3 iX8_doSheet_X3 4 (by decide) 31 rfl rfl rfl dX8_doSheet_26 ?_
    refine lv_if_ne (tgt := 35) hx hb dX8_doSheet_29 (by decide) (fun c5 => ?_) (fun c5 => ?_)
    · have hw := hw.2 c5
      refine lv_aload_n hx hb dX8_doSheet_35 rfl (lv_at hl 0 rfl) ?_
      refine g_get (v := .ref (ad 10 0)) hx hb hts hown hK hP (hLx.h (f := 0) (by decide)) (gC0 _ _ _ _) gcl8 iX8_doSheet_X8 3 (by decide) mX8_doSheet_3 rfl rfl dX8_doSheet_36 ?_
      refine lv_aload_n hx hb dX8_doSheet_39 rfl (lv_at hl 0 rfl) ?_
      refine g_get (v := .ref (ad 1 0)) hx hb hts hown hK hP (hLx.h (f := 0) (by decide)) (gC0 _ _ _ _) gcl8 iX8_doSheet_X8 0 (by decide) mX8_doSheet_2 rfl rfl dX8_doSheet_40 ?_
      refine g_Vv (As := [.ref (ad 1 0)]) (rest := []) S hK hN hP hS (qX0_remember l D E ad L A hF hLx M4 0 (by decide) _ hw) (cwV 1 hts gX8_doSheet_X0_remember rfl rfl rfl eX0_remember ⟨Nat.le_of_ble_eq_true rfl, Nat.le_of_ble_eq_true rfl⟩) (hLx.h (f := 10) (by decide)) (gC10 _ _ _ _) gcl0 rfl rfl rfl hl.1 (Nat.le_of_ble_eq_true rfl) ⟨Nat.zero_le _, Nat.zero_le _⟩ dX8_doSheet_43 (fun M6 H locs hw hP hS => ?_)
      refine lv_aload_n hx hb dX8_doSheet_46 rfl (lv_at hl 0 rfl) ?_
      refine g_get (v := .ref (ad 1 0)) hx hb hts hown hK hP (hLx.h (f := 0) (by decide)) (gC0 _ _ _ _) gcl8 iX8_doSheet_X8 0 (by decide) mX8_doSheet_2 rfl rfl dX8_doSheet_47 ?_
      refine lv_aload_n hx hb dX8_doSheet_50 rfl (lv_at hl 0 rfl) ?_
      refine g_get (v := .ref (ad 14 0)) hx hb hts hown hK hP (hLx.h (f := 0) (by decide)) (gC0 _ _ _ _) gcl8 iX8_doSheet_X8 5 (by decide) mX8_doSheet_1 rfl rfl dX8_doSheet_51 ?_
      refine g_Vv (As := [.ref (ad 14 0)]) (rest := []) S hK hN hP hS (qX4_practise l D E ad L A hF hLx M6 0 (by decide) _ hw) (cwV 1 hts gX8_doSheet_X4_practise rfl rfl rfl eX4_practise ⟨Nat.le_of_ble_eq_true rfl, Nat.le_of_ble_eq_true rfl⟩) (hLx.h (f := 1) (by decide)) (gC1 _ _ _ _) gcl4 rfl rfl rfl hl.1 (Nat.le_of_ble_eq_true rfl) ⟨Nat.zero_le _, Nat.zero_le _⟩ dX8_doSheet_54 (fun M7 H locs hw hP hS => ?_)
      refine lv_aload_n hx hb dX8_doSheet_57 rfl (lv_at hl 0 rfl) ?_
      refine g_get (v := .ref (ad 14 0)) hx hb hts hown hK hP (hLx.h (f := 0) (by decide)) (gC0 _ _ _ _) gcl8 iX8_doSheet_X8 5 (by decide) mX8_doSheet_1 rfl rfl dX8_doSheet_58 ?_
      refine g_getN (v := .int (M7 14 0 4)) hx hb hts hown hK hN hP (hLx.h (f := 14) (by decide)) (gC14 _ _ _ _) gcl3 iX8_doSheet_X3 4 (by decide) 31 rfl rfl rfl dX8_doSheet_61 ?_
      exact g_iret hx hb hr hlocks hw hP hS dX8_doSheet_64
    · have hw := hw.1 c5
      refine lv_bipush (v := (-5 : Int32)) hx hb dX8_doSheet_32 (by decide) ?_
      exact g_iret hx hb hr hlocks hw hP hS dX8_doSheet_34
  · have hw := hw.1 c3
    refine lv_bipush (v := (-2 : Int32)) hx hb dX8_doSheet_7 (by decide) ?_
    exact g_iret hx hb hr hlocks hw hP hS dX8_doSheet_9
abbrev rmX8_type : Room := { frames := 1, cells := 0, slots := 0, locals := 21 }
theorem eX8_type : yX8_type.cls = RX8 ∧ yX8_type.cls ≠ "java/lang/invoke/MethodHandle" ∧ yX8_type.cls ≠ "java/lang/invoke/VarHandle" ∧ (parseMethodDescriptor yX8_type.desc).map (fun d => d.parameters.length) = some 1 := by decide +kernel
theorem iX8_type_X8 : ∀ w ∈ wsX80, w ∈ wsX8_type := fun _ h => List.mem_cons_of_mem _ (List.mem_append_left _ (List.mem_append_right _ (h)))
theorem mX8_type_1 : Cond.fieldLink RX8 32 "PracticeSheets" "text" "LPracticeSheets$Text;" ∈ wsX8_type := List.mem_of_getElem? (i := 1) rfl
theorem iX8_type_X5 : ∀ w ∈ wsX50, w ∈ wsX8_type := fun _ h => List.mem_cons_of_mem _ (List.mem_append_right _ (h))
set_option maxHeartbeats 4000000 in
set_option maxRecDepth 100000 in
theorem qX8_type (l : Launch) (D : va_G) (E : Nat → ClassId) (ad : Nat → Nat → Nat) (L : List (Nat × Nat)) (A : Nat → Prop) (hF : gF E ad L A) (hLx : gLx L) (M0 : gW) (a1 : Int32)  (K : Int32 → gW → Prop) (hw : wX8_type M0 a1 K) : Met l yX8_type wsX8_type rmX8_type (va_Pc [.ref (ad 0 0), .int a1] (gPre D E ad L M0)) (gQi D E ad L A K) 0 0 A := by
  refine Met.ofW (cc := cX8_type) (maxL := 2) (ret := (some .int)) (by decide) rfl ?_
  intro p e s m args below meth c s₁ B hml hv
  obtain ⟨rfl, hP, hK, hN⟩ := hv
  have hx := B.exec
  have hb := B.bytes
  have hr := B.returns
  have hts := atoms_spec (ws := wsX8_type) B.pre
  have hown : s.vm.findClass RX8 = some m.cls := findClass_of_methodNamed B.named
  have hlocks := B.notSynchronized
  have S : CallFix p m c cX8_type 2 s ([.ref (ad 0 0), .int a1] : List Value).toArray wsX8_type RX8 := ⟨hx, hb, hml, hown, hts⟩
  have hS : va_S A s.heap s.heap [] := va_S.rf
  have hl := lv_entry ([.ref (ad 0 0), .int a1]) (n := 2) (Nat.le_of_ble_eq_true rfl)
  rw [lg_entry_eq]
  generalize (lg_sl ([.ref (ad 0 0), .int a1]) ++ List.replicate (2 - (lg_sl ([.ref (ad 0 0), .int a1])).length) Slot.unset).toArray = ls at hl ⊢
  have hl : lv_has ls 2 [(0, .ref (ad 0 0)), (1, .int a1)] := hl
  refine lv_aload_n hx hb dX8_type_0 rfl (lv_at hl 0 rfl) ?_
  refine g_get (v := .ref (ad 12 0)) hx hb hts hown hK hP (hLx.h (f := 0) (by decide)) (gC0 _ _ _ _) gcl8 iX8_type_X8 4 (by decide) mX8_type_1 rfl rfl dX8_type_1 ?_
  refine lv_iload_n hx hb dX8_type_4 rfl (lv_at hl 1 rfl) ?_
  refine g_Vi (As := [.int a1]) (rest := []) S hK hN hP hS (qX5_append l D E ad L A hF hLx M0 a1  _ hw) (cwV 1 hts gX8_type_X5_append rfl rfl rfl eX5_append ⟨Nat.le_of_ble_eq_true rfl, Nat.le_of_ble_eq_true rfl⟩) (hLx.h (f := 12) (by decide)) (gC12 _ _ _ _) gcl5 rfl rfl rfl hl.1 (Nat.le_of_ble_eq_true rfl) ⟨Nat.zero_le _, Nat.zero_le _⟩ dX8_type_5 (fun r2 M1 H locs hw hP hS => ?_)
  refine lv_if_eq (tgt := 21) hx hb dX8_type_8 (by decide) (fun c3 => ?_) (fun c3 => ?_)
  · have hw := hw.1 c3
    refine lv_bipush (v := (-3 : Int32)) hx hb dX8_type_21 (by decide) ?_
    exact g_iret hx hb hr hlocks hw hP hS dX8_type_23
  · have hw := hw.2 c3
    refine lv_aload_n hx hb dX8_type_11 rfl (lv_at hl 0 rfl) ?_
    refine g_get (v := .ref (ad 12 0)) hx hb hts hown hK hP (hLx.h (f := 0) (by decide)) (gC0 _ _ _ _) gcl8 iX8_type_X8 4 (by decide) mX8_type_1 rfl rfl dX8_type_12 ?_
    refine g_getN (v := .int (M1 12 0 2)) hx hb hts hown hK hN hP (hLx.h (f := 12) (by decide)) (gC12 _ _ _ _) gcl5 iX8_type_X5 2 (by decide) 26 rfl rfl rfl dX8_type_15 ?_
    refine lv_goto (tgt := 23) hx hb dX8_type_18 (by decide) ?_
    exact g_iret hx hb hr hlocks hw hP hS dX8_type_23
abbrev rmX8_clearText : Room := { frames := 0, cells := 0, slots := 0, locals := 0 }
theorem eX8_clearText : yX8_clearText.cls = RX8 ∧ yX8_clearText.cls ≠ "java/lang/invoke/MethodHandle" ∧ yX8_clearText.cls ≠ "java/lang/invoke/VarHandle" ∧ (parseMethodDescriptor yX8_clearText.desc).map (fun d => d.parameters.length) = some 0 := by decide +kernel
theorem iX8_clearText_X8 : ∀ w ∈ wsX80, w ∈ wsX8_clearText := fun _ h => List.mem_cons_of_mem _ (List.mem_append_left _ (List.mem_append_right _ (h)))
theorem mX8_clearText_1 : Cond.fieldLink RX8 32 "PracticeSheets" "text" "LPracticeSheets$Text;" ∈ wsX8_clearText := List.mem_of_getElem? (i := 1) rfl
theorem iX8_clearText_X5 : ∀ w ∈ wsX50, w ∈ wsX8_clearText := fun _ h => List.mem_cons_of_mem _ (List.mem_append_right _ (h))
set_option maxHeartbeats 4000000 in
set_option maxRecDepth 100000 in
theorem qX8_clearText (l : Launch) (D : va_G) (E : Nat → ClassId) (ad : Nat → Nat → Nat) (L : List (Nat × Nat)) (A : Nat → Prop) (hF : gF E ad L A) (hLx : gLx L) (M0 : gW)  (K : Int32 → gW → Prop) (hw : wX8_clearText M0 K) : Met l yX8_clearText wsX8_clearText rmX8_clearText (va_Pc [.ref (ad 0 0)] (gPre D E ad L M0)) (gQi D E ad L A K) 0 0 A := by
  refine Met.ofW (cc := cX8_clearText) (maxL := 2) (ret := (some .int)) (by decide) rfl ?_
  intro p e s m args below meth c s₁ B hml hv
  obtain ⟨rfl, hP, hK, hN⟩ := hv
  have hx := B.exec
  have hb := B.bytes
  have hr := B.returns
  have hts := atoms_spec (ws := wsX8_clearText) B.pre
  have hown : s.vm.findClass RX8 = some m.cls := findClass_of_methodNamed B.named
  have hlocks := B.notSynchronized
  have S : CallFix p m c cX8_clearText 2 s ([.ref (ad 0 0)] : List Value).toArray wsX8_clearText RX8 := ⟨hx, hb, hml, hown, hts⟩
  have hS : va_S A s.heap s.heap [] := va_S.rf
  have hl := lv_entry ([.ref (ad 0 0)]) (n := 2) (Nat.le_of_ble_eq_true rfl)
  rw [lg_entry_eq]
  generalize (lg_sl ([.ref (ad 0 0)]) ++ List.replicate (2 - (lg_sl ([.ref (ad 0 0)])).length) Slot.unset).toArray = ls at hl ⊢
  have hl : lv_has ls 2 [(0, .ref (ad 0 0))] := hl
  refine lv_aload_n hx hb dX8_clearText_0 rfl (lv_at hl 0 rfl) ?_
  refine g_get (v := .ref (ad 12 0)) hx hb hts hown hK hP (hLx.h (f := 0) (by decide)) (gC0 _ _ _ _) gcl8 iX8_clearText_X8 4 (by decide) mX8_clearText_1 rfl rfl dX8_clearText_1 ?_
  refine g_getN (v := .int (M0 12 0 2)) hx hb hts hown hK hN hP (hLx.h (f := 12) (by decide)) (gC12 _ _ _ _) gcl5 iX8_clearText_X5 2 (by decide) 26 rfl rfl rfl dX8_clearText_4 ?_
  refine lv_istore_n (lv' := [(1, .int (M0 12 0 2)), (0, .ref (ad 0 0))]) hx hb dX8_clearText_7 rfl hl (by decide) rfl (fun ls hl => ?_)
  refine lv_aload_n hx hb dX8_clearText_8 rfl (lv_at hl 1 rfl) ?_
  refine g_get (v := .ref (ad 12 0)) hx hb hts hown hK hP (hLx.h (f := 0) (by decide)) (gC0 _ _ _ _) gcl8 iX8_clearText_X8 4 (by decide) mX8_clearText_1 rfl rfl dX8_clearText_9 ?_
  refine lv_iconst (v := (0 : Int32)) hx hb dX8_clearText_12 (by decide) ?_
  refine g_putN hx hb hF hts hown hK hN hP hS (hLx.h (f := 12) (by decide)) (gC12 _ _ _ _) gcl5 iX8_clearText_X5 tyX5 tyX5_ok nmX5 2 (by decide) 26 rfl rfl rfl rfl rfl (Nat.lt_of_lt_of_eq (by decide : 2 < 3) rfl) rfl dX8_clearText_13 (fun M1 e2 H locs hP hS => ?_)
  have hw := hw M1 e2
  refine lv_iload_n hx hb dX8_clearText_16 rfl (lv_at hl 0 rfl) ?_
  exact g_iret hx hb hr hlocks hw hP hS dX8_clearText_17
abbrev rmX8_undo : Room := { frames := 5, cells := 0, slots := 0, locals := 103 }
theorem eX8_undo : yX8_undo.cls = RX8 ∧ yX8_undo.cls ≠ "java/lang/invoke/MethodHandle" ∧ yX8_undo.cls ≠ "java/lang/invoke/VarHandle" ∧ (parseMethodDescriptor yX8_undo.desc).map (fun d => d.parameters.length) = some 0 := by decide +kernel
theorem iX8_undo_X8 : ∀ w ∈ wsX80, w ∈ wsX8_undo := fun _ h => List.mem_cons_of_mem _ (List.mem_append_left _ (List.mem_append_left _ (List.mem_append_left _ (List.mem_append_left _ (List.mem_append_left _ (List.mem_append_right _ (h)))))))
theorem mX8_undo_1 : Cond.fieldLink RX8 25 "PracticeSheets" "history" "LPracticeSheets$History;" ∈ wsX8_undo := List.mem_of_getElem? (i := 1) rfl
theorem mX8_undo_2 : Cond.fieldLink RX8 12 "PracticeSheets" "now" "LPracticeSheets$State;" ∈ wsX8_undo := List.mem_of_getElem? (i := 2) rfl
theorem iX8_undo_X0 : ∀ w ∈ wsX00, w ∈ wsX8_undo := fun _ h => List.mem_cons_of_mem _ (List.mem_append_left _ (List.mem_append_left _ (List.mem_append_left _ (List.mem_append_left _ (List.mem_append_right _ (h))))))
set_option maxHeartbeats 4000000 in
set_option maxRecDepth 100000 in
theorem qX8_undo (l : Launch) (D : va_G) (E : Nat → ClassId) (ad : Nat → Nat → Nat) (L : List (Nat × Nat)) (A : Nat → Prop) (hF : gF E ad L A) (hLx : gLx L) (M0 : gW)  (K : Int32 → gW → Prop) (hw : wX8_undo M0 K) : Met l yX8_undo wsX8_undo rmX8_undo (va_Pc [.ref (ad 0 0)] (gPre D E ad L M0)) (gQi D E ad L A K) 0 0 A := by
  refine Met.ofW (cc := cX8_undo) (maxL := 1) (ret := (some .int)) (by decide) rfl ?_
  intro p e s m args below meth c s₁ B hml hv
  obtain ⟨rfl, hP, hK, hN⟩ := hv
  have hx := B.exec
  have hb := B.bytes
  have hr := B.returns
  have hts := atoms_spec (ws := wsX8_undo) B.pre
  have hown : s.vm.findClass RX8 = some m.cls := findClass_of_methodNamed B.named
  have hlocks := B.notSynchronized
  have S : CallFix p m c cX8_undo 1 s ([.ref (ad 0 0)] : List Value).toArray wsX8_undo RX8 := ⟨hx, hb, hml, hown, hts⟩
  have hS : va_S A s.heap s.heap [] := va_S.rf
  have hl := lv_entry ([.ref (ad 0 0)]) (n := 1) (Nat.le_of_ble_eq_true rfl)
  rw [lg_entry_eq]
  generalize (lg_sl ([.ref (ad 0 0)]) ++ List.replicate (1 - (lg_sl ([.ref (ad 0 0)])).length) Slot.unset).toArray = ls at hl ⊢
  have hl : lv_has ls 1 [(0, .ref (ad 0 0))] := hl
  refine lv_aload_n hx hb dX8_undo_0 rfl (lv_at hl 0 rfl) ?_
  refine g_get (v := .ref (ad 10 0)) hx hb hts hown hK hP (hLx.h (f := 0) (by decide)) (gC0 _ _ _ _) gcl8 iX8_undo_X8 3 (by decide) mX8_undo_1 rfl rfl dX8_undo_1 ?_
  refine lv_aload_n hx hb dX8_undo_4 rfl (lv_at hl 0 rfl) ?_
  refine g_get (v := .ref (ad 1 0)) hx hb hts hown hK hP (hLx.h (f := 0) (by decide)) (gC0 _ _ _ _) gcl8 iX8_undo_X8 0 (by decide) mX8_undo_2 rfl rfl dX8_undo_5 ?_
  refine g_Vi (As := [.ref (ad 1 0)]) (rest := []) S hK hN hP hS (qX0_takeBack l D E ad L A hF hLx M0 0 (by decide) _ hw) (cwV 1 hts gX8_undo_X0_takeBack rfl rfl rfl eX0_takeBack ⟨Nat.le_of_ble_eq_true rfl, Nat.le_of_ble_eq_true rfl⟩) (hLx.h (f := 10) (by decide)) (gC10 _ _ _ _) gcl0 rfl rfl rfl hl.1 (Nat.le_of_ble_eq_true rfl) ⟨Nat.zero_le _, Nat.zero_le _⟩ dX8_undo_8 (fun r2 M1 H locs hw hP hS => ?_)
  refine lv_if_eq (tgt := 24) hx hb dX8_undo_11 (by decide) (fun c3 => ?_) (fun c3 => ?_)
  · have hw := hw.1 c3
    refine lv_bipush (v := (-5 : Int32)) hx hb dX8_undo_24 (by decide) ?_
    exact g_iret hx hb hr hlocks hw hP hS dX8_undo_26
  · have hw := hw.2 c3
    refine lv_aload_n hx hb dX8_undo_14 rfl (lv_at hl 0 rfl) ?_
    refine g_get (v := .ref (ad 10 0)) hx hb hts hown hK hP (hLx.h (f := 0) (by decide)) (gC0 _ _ _ _) gcl8 iX8_undo_X8 3 (by decide) mX8_undo_1 rfl rfl dX8_undo_15 ?_
    refine g_getN (v := .int (M1 10 0 1)) hx hb hts hown hK hN hP (hLx.h (f := 10) (by decide)) (gC10 _ _ _ _) gcl0 iX8_undo_X0 1 (by decide) 25 rfl rfl rfl dX8_undo_18 ?_
    refine lv_goto (tgt := 26) hx hb dX8_undo_21 (by decide) ?_
    exact g_iret hx hb hr hlocks hw hP hS dX8_undo_26
abbrev rmX8_keep : Room := { frames := 4, cells := 0, slots := 0, locals := 82 }
theorem eX8_keep : yX8_keep.cls = RX8 ∧ yX8_keep.cls ≠ "java/lang/invoke/MethodHandle" ∧ yX8_keep.cls ≠ "java/lang/invoke/VarHandle" ∧ (parseMethodDescriptor yX8_keep.desc).map (fun d => d.parameters.length) = some 0 := by decide +kernel
theorem iX8_keep_X8 : ∀ w ∈ wsX80, w ∈ wsX8_keep := fun _ h => List.mem_cons_of_mem _ (List.mem_append_left _ (List.mem_append_left _ (List.mem_append_left _ (List.mem_append_left _ (List.mem_append_right _ (h))))))
theorem mX8_keep_1 : Cond.fieldLink RX8 16 "PracticeSheets" "snapshot" "LPracticeSheets$State;" ∈ wsX8_keep := List.mem_of_getElem? (i := 1) rfl
theorem mX8_keep_2 : Cond.fieldLink RX8 12 "PracticeSheets" "now" "LPracticeSheets$State;" ∈ wsX8_keep := List.mem_of_getElem? (i := 2) rfl
theorem mX8_keep_3 : Cond.fieldLink RX8 50 "PracticeSheets" "hasSnapshot" "Z" ∈ wsX8_keep := List.mem_of_getElem? (i := 3) rfl
theorem iX8_keep_X4 : ∀ w ∈ wsX40, w ∈ wsX8_keep := fun _ h => List.mem_cons_of_mem _ (List.mem_append_left _ (List.mem_append_left _ (List.mem_append_left _ (List.mem_append_right _ (h)))))
theorem iX8_keep_X7 : ∀ w ∈ wsX70, w ∈ wsX8_keep := fun _ h => List.mem_cons_of_mem _ (List.mem_append_left _ (List.mem_append_left _ (List.mem_append_right _ (h))))
set_option maxHeartbeats 4000000 in
set_option maxRecDepth 100000 in
theorem qX8_keep (l : Launch) (D : va_G) (E : Nat → ClassId) (ad : Nat → Nat → Nat) (L : List (Nat × Nat)) (A : Nat → Prop) (hF : gF E ad L A) (hLx : gLx L) (M0 : gW)  (K : Int32 → gW → Prop) (hw : wX8_keep M0 K) : Met l yX8_keep wsX8_keep rmX8_keep (va_Pc [.ref (ad 0 0)] (gPre D E ad L M0)) (gQi D E ad L A K) 0 0 A := by
  refine Met.ofW (cc := cX8_keep) (maxL := 1) (ret := (some .int)) (by decide) rfl ?_
  intro p e s m args below meth c s₁ B hml hv
  obtain ⟨rfl, hP, hK, hN⟩ := hv
  have hx := B.exec
  have hb := B.bytes
  have hr := B.returns
  have hts := atoms_spec (ws := wsX8_keep) B.pre
  have hown : s.vm.findClass RX8 = some m.cls := findClass_of_methodNamed B.named
  have hlocks := B.notSynchronized
  have S : CallFix p m c cX8_keep 1 s ([.ref (ad 0 0)] : List Value).toArray wsX8_keep RX8 := ⟨hx, hb, hml, hown, hts⟩
  have hS : va_S A s.heap s.heap [] := va_S.rf
  have hl := lv_entry ([.ref (ad 0 0)]) (n := 1) (Nat.le_of_ble_eq_true rfl)
  rw [lg_entry_eq]
  generalize (lg_sl ([.ref (ad 0 0)]) ++ List.replicate (1 - (lg_sl ([.ref (ad 0 0)])).length) Slot.unset).toArray = ls at hl ⊢
  have hl : lv_has ls 1 [(0, .ref (ad 0 0))] := hl
  refine lv_aload_n hx hb dX8_keep_0 rfl (lv_at hl 0 rfl) ?_
  refine g_get (v := .ref (ad 1 1)) hx hb hts hown hK hP (hLx.h (f := 0) (by decide)) (gC0 _ _ _ _) gcl8 iX8_keep_X8 1 (by decide) mX8_keep_1 rfl rfl dX8_keep_1 ?_
  refine lv_aload_n hx hb dX8_keep_4 rfl (lv_at hl 0 rfl) ?_
  refine g_get (v := .ref (ad 1 0)) hx hb hts hown hK hP (hLx.h (f := 0) (by decide)) (gC0 _ _ _ _) gcl8 iX8_keep_X8 0 (by decide) mX8_keep_2 rfl rfl dX8_keep_5 ?_
  refine g_Vv (As := [.ref (ad 1 0)]) (rest := []) S hK hN hP hS (qX4_copyFrom l D E ad L A hF hLx M0 1 0 (by decide) (by decide) _ hw) (cwV 1 hts gX8_keep_X4_copyFrom rfl rfl rfl eX4_copyFrom ⟨Nat.le_of_ble_eq_true rfl, Nat.le_of_ble_eq_true rfl⟩) (hLx.h (f := 1) (by decide)) (gC1 _ _ _ _) gcl4 rfl rfl rfl hl.1 (Nat.le_of_ble_eq_true rfl) ⟨Nat.zero_le _, Nat.zero_le _⟩ dX8_keep_8 (fun M1 H locs hw hP hS => ?_)
  refine lv_aload_n hx hb dX8_keep_11 rfl (lv_at hl 0 rfl) ?_
  refine lv_iconst (v := (1 : Int32)) hx hb dX8_keep_12 (by decide) ?_
  refine g_put hx hb hF hts hown hK hP hS (hLx.h (f := 0) (by decide)) (gC0 _ _ _ _) gcl8 iX8_keep_X8 tyX8 tyX8_ok nmX8 7 (by decide) mX8_keep_3 rfl rfl rfl rfl (Nat.lt_of_lt_of_eq (by decide : 7 < 8) rfl) rfl dX8_keep_13 (fun M2 e3 H locs hP hS => ?_)
  have hw := hw M2 e3
  refine lv_aload_n hx hb dX8_keep_16 rfl (lv_at hl 0 rfl) ?_
  refine g_get (v := .ref (ad 1 0)) hx hb hts hown hK hP (hLx.h (f := 0) (by decide)) (gC0 _ _ _ _) gcl8 iX8_keep_X8 0 (by decide) mX8_keep_2 rfl rfl dX8_keep_17 ?_
  refine g_getN (v := .ref (ad 5 0)) hx hb hts hown hK hN hP (hLx.h (f := 1) (by decide)) (gC1 _ _ _ _) gcl4 iX8_keep_X4 1 (by decide) 18 rfl rfl rfl dX8_keep_20 ?_
  refine g_getN (v := .int (M2 5 0 1)) hx hb hts hown hK hN hP (hLx.h (f := 5) (by decide)) (gC5 _ _ _ _) gcl7 iX8_keep_X7 1 (by decide) 14 rfl rfl rfl dX8_keep_23 ?_
  exact g_iret hx hb hr hlocks hw hP hS dX8_keep_26
abbrev rmX8_restore : Room := { frames := 5, cells := 0, slots := 0, locals := 103 }
theorem eX8_restore : yX8_restore.cls = RX8 ∧ yX8_restore.cls ≠ "java/lang/invoke/MethodHandle" ∧ yX8_restore.cls ≠ "java/lang/invoke/VarHandle" ∧ (parseMethodDescriptor yX8_restore.desc).map (fun d => d.parameters.length) = some 0 := by decide +kernel
theorem iX8_restore_X8 : ∀ w ∈ wsX80, w ∈ wsX8_restore := fun _ h => List.mem_cons_of_mem _ (List.mem_append_left _ (List.mem_append_left _ (List.mem_append_left _ (List.mem_append_left _ (List.mem_append_left _ (List.mem_append_right _ (h)))))))
theorem mX8_restore_1 : Cond.fieldLink RX8 50 "PracticeSheets" "hasSnapshot" "Z" ∈ wsX8_restore := List.mem_of_getElem? (i := 1) rfl
theorem mX8_restore_2 : Cond.fieldLink RX8 25 "PracticeSheets" "history" "LPracticeSheets$History;" ∈ wsX8_restore := List.mem_of_getElem? (i := 2) rfl
theorem mX8_restore_3 : Cond.fieldLink RX8 12 "PracticeSheets" "now" "LPracticeSheets$State;" ∈ wsX8_restore := List.mem_of_getElem? (i := 3) rfl
theorem mX8_restore_4 : Cond.fieldLink RX8 16 "PracticeSheets" "snapshot" "LPracticeSheets$State;" ∈ wsX8_restore := List.mem_of_getElem? (i := 4) rfl
theorem iX8_restore_X4 : ∀ w ∈ wsX40, w ∈ wsX8_restore := fun _ h => List.mem_cons_of_mem _ (List.mem_append_left _ (List.mem_append_left _ (List.mem_append_left _ (List.mem_append_left _ (List.mem_append_right _ (h))))))
theorem iX8_restore_X7 : ∀ w ∈ wsX70, w ∈ wsX8_restore := fun _ h => List.mem_cons_of_mem _ (List.mem_append_left _ (List.mem_append_left _ (List.mem_append_left _ (List.mem_append_right _ (h)))))
set_option maxHeartbeats 4000000 in
set_option maxRecDepth 100000 in
theorem qX8_restore (l : Launch) (D : va_G) (E : Nat → ClassId) (ad : Nat → Nat → Nat) (L : List (Nat × Nat)) (A : Nat → Prop) (hF : gF E ad L A) (hLx : gLx L) (M0 : gW)  (K : Int32 → gW → Prop) (hw : wX8_restore M0 K) : Met l yX8_restore wsX8_restore rmX8_restore (va_Pc [.ref (ad 0 0)] (gPre D E ad L M0)) (gQi D E ad L A K) 0 0 A := by
  refine Met.ofW (cc := cX8_restore) (maxL := 1) (ret := (some .int)) (by decide) rfl ?_
  intro p e s m args below meth c s₁ B hml hv
  obtain ⟨rfl, hP, hK, hN⟩ := hv
  have hx := B.exec
  have hb := B.bytes
  have hr := B.returns
  have hts := atoms_spec (ws := wsX8_restore) B.pre
  have hown : s.vm.findClass RX8 = some m.cls := findClass_of_methodNamed B.named
  have hlocks := B.notSynchronized
  have S : CallFix p m c cX8_restore 1 s ([.ref (ad 0 0)] : List Value).toArray wsX8_restore RX8 := ⟨hx, hb, hml, hown, hts⟩
  have hS : va_S A s.heap s.heap [] := va_S.rf
  have hl := lv_entry ([.ref (ad 0 0)]) (n := 1) (Nat.le_of_ble_eq_true rfl)
  rw [lg_entry_eq]
  generalize (lg_sl ([.ref (ad 0 0)]) ++ List.replicate (1 - (lg_sl ([.ref (ad 0 0)])).length) Slot.unset).toArray = ls at hl ⊢
  have hl : lv_has ls 1 [(0, .ref (ad 0 0))] := hl
  refine lv_aload_n hx hb dX8_restore_0 rfl (lv_at hl 0 rfl) ?_
  refine g_get (v := .int (M0 0 0 7)) hx hb hts hown hK hP (hLx.h (f := 0) (by decide)) (gC0 _ _ _ _) gcl8 iX8_restore_X8 7 (by decide) mX8_restore_1 rfl rfl dX8_restore_1 ?_
  refine lv_if_ne (tgt := 10) hx hb dX8_restore_4 (by decide) (fun c1 => ?_) (fun c1 => ?_)
  · have hw := hw.2 c1
    refine lv_aload_n hx hb dX8_restore_10 rfl (lv_at hl 0 rfl) ?_
    refine g_get (v := .ref (ad 10 0)) hx hb hts hown hK hP (hLx.h (f := 0) (by decide)) (gC0 _ _ _ _) gcl8 iX8_restore_X8 3 (by decide) mX8_restore_2 rfl rfl dX8_restore_11 ?_
    refine lv_aload_n hx hb dX8_restore_14 rfl (lv_at hl 0 rfl) ?_
    refine g_get (v := .ref (ad 1 0)) hx hb hts hown hK hP (hLx.h (f := 0) (by decide)) (gC0 _ _ _ _) gcl8 iX8_restore_X8 0 (by decide) mX8_restore_3 rfl rfl dX8_restore_15 ?_
    refine g_Vv (As := [.ref (ad 1 0)]) (rest := []) S hK hN hP hS (qX0_remember l D E ad L A hF hLx M0 0 (by decide) _ hw) (cwV 1 hts gX8_restore_X0_remember rfl rfl rfl eX0_remember ⟨Nat.le_of_ble_eq_true rfl, Nat.le_of_ble_eq_true rfl⟩) (hLx.h (f := 10) (by decide)) (gC10 _ _ _ _) gcl0 rfl rfl rfl hl.1 (Nat.le_of_ble_eq_true rfl) ⟨Nat.zero_le _, Nat.zero_le _⟩ dX8_restore_18 (fun M2 H locs hw hP hS => ?_)
    refine lv_aload_n hx hb dX8_restore_21 rfl (lv_at hl 0 rfl) ?_
    refine g_get (v := .ref (ad 1 0)) hx hb hts hown hK hP (hLx.h (f := 0) (by decide)) (gC0 _ _ _ _) gcl8 iX8_restore_X8 0 (by decide) mX8_restore_3 rfl rfl dX8_restore_22 ?_
    refine lv_aload_n hx hb dX8_restore_25 rfl (lv_at hl 0 rfl) ?_
    refine g_get (v := .ref (ad 1 1)) hx hb hts hown hK hP (hLx.h (f := 0) (by decide)) (gC0 _ _ _ _) gcl8 iX8_restore_X8 1 (by decide) mX8_restore_4 rfl rfl dX8_restore_26 ?_
    refine g_Vv (As := [.ref (ad 1 1)]) (rest := []) S hK hN hP hS (qX4_copyFrom l D E ad L A hF hLx M2 0 1 (by decide) (by decide) _ hw) (cwV 1 hts gX8_restore_X4_copyFrom rfl rfl rfl eX4_copyFrom ⟨Nat.le_of_ble_eq_true rfl, Nat.le_of_ble_eq_true rfl⟩) (hLx.h (f := 1) (by decide)) (gC1 _ _ _ _) gcl4 rfl rfl rfl hl.1 (Nat.le_of_ble_eq_true rfl) ⟨Nat.zero_le _, Nat.zero_le _⟩ dX8_restore_29 (fun M3 H locs hw hP hS => ?_)
    refine lv_aload_n hx hb dX8_restore_32 rfl (lv_at hl 0 rfl) ?_
    refine g_get (v := .ref (ad 1 0)) hx hb hts hown hK hP (hLx.h (f := 0) (by decide)) (gC0 _ _ _ _) gcl8 iX8_restore_X8 0 (by decide) mX8_restore_3 rfl rfl dX8_restore_33 ?_
    refine g_getN (v := .ref (ad 5 0)) hx hb hts hown hK hN hP (hLx.h (f := 1) (by decide)) (gC1 _ _ _ _) gcl4 iX8_restore_X4 1 (by decide) 18 rfl rfl rfl dX8_restore_36 ?_
    refine g_getN (v := .int (M3 5 0 1)) hx hb hts hown hK hN hP (hLx.h (f := 5) (by decide)) (gC5 _ _ _ _) gcl7 iX8_restore_X7 1 (by decide) 14 rfl rfl rfl dX8_restore_39 ?_
    exact g_iret hx hb hr hlocks hw hP hS dX8_restore_42
  · have hw := hw.1 c1
    refine lv_bipush (v := (-5 : Int32)) hx hb dX8_restore_7 (by decide) ?_
    exact g_iret hx hb hr hlocks hw hP hS dX8_restore_9
abbrev rmX8_toldOfPart : Room := { frames := 3, cells := 0, slots := 0, locals := 62 }
theorem eX8_toldOfPart : yX8_toldOfPart.cls = RX8 ∧ yX8_toldOfPart.cls ≠ "java/lang/invoke/MethodHandle" ∧ yX8_toldOfPart.cls ≠ "java/lang/invoke/VarHandle" ∧ (parseMethodDescriptor yX8_toldOfPart.desc).map (fun d => d.parameters.length) = some 2 := by decide +kernel
theorem iX8_toldOfPart_X8 : ∀ w ∈ wsX80, w ∈ wsX8_toldOfPart := fun _ h => List.mem_cons_of_mem _ (List.mem_append_left _ (List.mem_append_left _ (List.mem_append_left _ (List.mem_append_left _ (List.mem_append_right _ (h))))))
theorem mX8_toldOfPart_1 : Cond.fieldLink RX8 12 "PracticeSheets" "now" "LPracticeSheets$State;" ∈ wsX8_toldOfPart := List.mem_of_getElem? (i := 1) rfl
theorem iX8_toldOfPart_X4 : ∀ w ∈ wsX40, w ∈ wsX8_toldOfPart := fun _ h => List.mem_cons_of_mem _ (List.mem_append_left _ (List.mem_append_left _ (List.mem_append_left _ (List.mem_append_right _ (h)))))
set_option maxHeartbeats 4000000 in
set_option maxRecDepth 100000 in
theorem qX8_toldOfPart (l : Launch) (D : va_G) (E : Nat → ClassId) (ad : Nat → Nat → Nat) (L : List (Nat × Nat)) (A : Nat → Prop) (hF : gF E ad L A) (hLx : gLx L) (M0 : gW) (a1 : Int32) (a2 : Int32)  (K : Int32 → gW → Prop) (hw : wX8_toldOfPart M0 a1 a2 K) : Met l yX8_toldOfPart wsX8_toldOfPart rmX8_toldOfPart (va_Pc [.ref (ad 0 0), .int a1, .int a2] (gPre D E ad L M0)) (gQi D E ad L A K) 0 0 A := by
  refine Met.ofW (cc := cX8_toldOfPart) (maxL := 3) (ret := (some .int)) (by decide) rfl ?_
  intro p e s m args below meth c s₁ B hml hv
  obtain ⟨rfl, hP, hK, hN⟩ := hv
  have hx := B.exec
  have hb := B.bytes
  have hr := B.returns
  have hts := atoms_spec (ws := wsX8_toldOfPart) B.pre
  have hown : s.vm.findClass RX8 = some m.cls := findClass_of_methodNamed B.named
  have hlocks := B.notSynchronized
  have S : CallFix p m c cX8_toldOfPart 3 s ([.ref (ad 0 0), .int a1, .int a2] : List Value).toArray wsX8_toldOfPart RX8 := ⟨hx, hb, hml, hown, hts⟩
  have hS : va_S A s.heap s.heap [] := va_S.rf
  have hl := lv_entry ([.ref (ad 0 0), .int a1, .int a2]) (n := 3) (Nat.le_of_ble_eq_true rfl)
  rw [lg_entry_eq]
  generalize (lg_sl ([.ref (ad 0 0), .int a1, .int a2]) ++ List.replicate (3 - (lg_sl ([.ref (ad 0 0), .int a1, .int a2])).length) Slot.unset).toArray = ls at hl ⊢
  have hl : lv_has ls 3 [(0, .ref (ad 0 0)), (1, .int a1), (2, .int a2)] := hl
  refine lv_iload_n hx hb dX8_toldOfPart_0 rfl (lv_at hl 2 rfl) ?_
  by_cases c1 : a2 = (0 : Int32)
  · have hw := hw.1 c1
    refine g_swK (tgt := 32) hx hb dX8_toldOfPart_1 0 c1 (by decide) (by decide) rfl (by decide) ?_
    refine lv_aload_n hx hb dX8_toldOfPart_32 rfl (lv_at hl 0 rfl) ?_
    refine g_get (v := .ref (ad 1 0)) hx hb hts hown hK hP (hLx.h (f := 0) (by decide)) (gC0 _ _ _ _) gcl8 iX8_toldOfPart_X8 0 (by decide) mX8_toldOfPart_1 rfl rfl dX8_toldOfPart_33 ?_
    refine g_getN (v := .ref (ad 2 0)) hx hb hts hown hK hN hP (hLx.h (f := 1) (by decide)) (gC1 _ _ _ _) gcl4 iX8_toldOfPart_X4 0 (by decide) 15 rfl rfl rfl dX8_toldOfPart_36 ?_
    refine lv_iload_n hx hb dX8_toldOfPart_39 rfl (lv_at hl 1 rfl) ?_
    refine g_Vi (As := [.int a1]) (rest := []) S hK hN hP hS (qX1_triesOf l D E ad L A hF hLx M0 0 a1 (by decide) _ hw) (cwV 1 hts gX8_toldOfPart_X1_triesOf rfl rfl rfl eX1_triesOf ⟨Nat.le_of_ble_eq_true rfl, Nat.le_of_ble_eq_true rfl⟩) (hLx.h (f := 2) (by decide)) (gC2 _ _ _ _) gcl1 rfl rfl rfl hl.1 (Nat.le_of_ble_eq_true rfl) ⟨Nat.zero_le _, Nat.zero_le _⟩ dX8_toldOfPart_40 (fun r3 M2 H locs hw hP hS => ?_)
    exact g_iret hx hb hr hlocks hw hP hS dX8_toldOfPart_43
  · 
    by_cases c4 : a2 = (1 : Int32)
    · have hw := hw.2.1 c4
      refine g_swK (tgt := 44) hx hb dX8_toldOfPart_1 1 c4 (by decide) (by decide) rfl (by decide) ?_
      refine lv_aload_n hx hb dX8_toldOfPart_44 rfl (lv_at hl 0 rfl) ?_
      refine g_get (v := .ref (ad 1 0)) hx hb hts hown hK hP (hLx.h (f := 0) (by decide)) (gC0 _ _ _ _) gcl8 iX8_toldOfPart_X8 0 (by decide) mX8_toldOfPart_1 rfl rfl dX8_toldOfPart_45 ?_
      refine g_getN (v := .ref (ad 2 0)) hx hb hts hown hK hN hP (hLx.h (f := 1) (by decide)) (gC1 _ _ _ _) gcl4 iX8_toldOfPart_X4 0 (by decide) 15 rfl rfl rfl dX8_toldOfPart_48 ?_
      refine lv_iload_n hx hb dX8_toldOfPart_51 rfl (lv_at hl 1 rfl) ?_
      refine g_Vi (As := [.int a1]) (rest := []) S hK hN hP hS (qX1_slipsOf l D E ad L A hF hLx M0 0 a1 (by decide) _ hw) (cwV 1 hts gX8_toldOfPart_X1_slipsOf rfl rfl rfl eX1_slipsOf ⟨Nat.le_of_ble_eq_true rfl, Nat.le_of_ble_eq_true rfl⟩) (hLx.h (f := 2) (by decide)) (gC2 _ _ _ _) gcl1 rfl rfl rfl hl.1 (Nat.le_of_ble_eq_true rfl) ⟨Nat.zero_le _, Nat.zero_le _⟩ dX8_toldOfPart_52 (fun r6 M5 H locs hw hP hS => ?_)
      exact g_iret hx hb hr hlocks hw hP hS dX8_toldOfPart_55
    · 
      by_cases c7 : a2 = (2 : Int32)
      · have hw := hw.2.2.1 c7
        refine g_swK (tgt := 56) hx hb dX8_toldOfPart_1 2 c7 (by decide) (by decide) rfl (by decide) ?_
        refine lv_aload_n hx hb dX8_toldOfPart_56 rfl (lv_at hl 0 rfl) ?_
        refine g_get (v := .ref (ad 1 0)) hx hb hts hown hK hP (hLx.h (f := 0) (by decide)) (gC0 _ _ _ _) gcl8 iX8_toldOfPart_X8 0 (by decide) mX8_toldOfPart_1 rfl rfl dX8_toldOfPart_57 ?_
        refine g_getN (v := .ref (ad 2 0)) hx hb hts hown hK hN hP (hLx.h (f := 1) (by decide)) (gC1 _ _ _ _) gcl4 iX8_toldOfPart_X4 0 (by decide) 15 rfl rfl rfl dX8_toldOfPart_60 ?_
        refine lv_iload_n hx hb dX8_toldOfPart_63 rfl (lv_at hl 1 rfl) ?_
        refine g_Vi (As := [.int a1]) (rest := []) S hK hN hP hS (qX1_needOf l D E ad L A hF hLx M0 0 a1 (by decide) _ hw) (cwV 1 hts gX8_toldOfPart_X1_needOf rfl rfl rfl eX1_needOf ⟨Nat.le_of_ble_eq_true rfl, Nat.le_of_ble_eq_true rfl⟩) (hLx.h (f := 2) (by decide)) (gC2 _ _ _ _) gcl1 rfl rfl rfl hl.1 (Nat.le_of_ble_eq_true rfl) ⟨Nat.zero_le _, Nat.zero_le _⟩ dX8_toldOfPart_64 (fun r9 M8 H locs hw hP hS => ?_)
        exact g_iret hx hb hr hlocks hw hP hS dX8_toldOfPart_67
      · 
        by_cases c10 : a2 = (3 : Int32)
        · have hw := hw.2.2.2.1 c10
          refine g_swK (tgt := 68) hx hb dX8_toldOfPart_1 3 c10 (by decide) (by decide) rfl (by decide) ?_
          refine lv_aload_n hx hb dX8_toldOfPart_68 rfl (lv_at hl 0 rfl) ?_
          refine g_get (v := .ref (ad 1 0)) hx hb hts hown hK hP (hLx.h (f := 0) (by decide)) (gC0 _ _ _ _) gcl8 iX8_toldOfPart_X8 0 (by decide) mX8_toldOfPart_1 rfl rfl dX8_toldOfPart_69 ?_
          refine g_getN (v := .ref (ad 5 0)) hx hb hts hown hK hN hP (hLx.h (f := 1) (by decide)) (gC1 _ _ _ _) gcl4 iX8_toldOfPart_X4 1 (by decide) 18 rfl rfl rfl dX8_toldOfPart_72 ?_
          refine lv_iload_n hx hb dX8_toldOfPart_75 rfl (lv_at hl 1 rfl) ?_
          refine g_Vi (As := [.int a1]) (rest := []) S hK hN hP hS (qX7_howManyHave l D E ad L A hF hLx M0 0 a1 (by decide) _ hw) (cwV 1 hts gX8_toldOfPart_X7_howManyHave rfl rfl rfl eX7_howManyHave ⟨Nat.le_of_ble_eq_true rfl, Nat.le_of_ble_eq_true rfl⟩) (hLx.h (f := 5) (by decide)) (gC5 _ _ _ _) gcl7 rfl rfl rfl hl.1 (Nat.le_of_ble_eq_true rfl) ⟨Nat.zero_le _, Nat.zero_le _⟩ dX8_toldOfPart_76 (fun r12 M11 H locs hw hP hS => ?_)
          exact g_iret hx hb hr hlocks hw hP hS dX8_toldOfPart_79
        · have hw := hw.2.2.2.2 c1 c4 c7 c10
          refine lv_tableOut (tgt := 80) hx hb dX8_toldOfPart_1 (by have z0 := g_ne (i := 0) (by decide) c1; have z1 := g_ne (i := 1) (by decide) c4; have z2 := g_ne (i := 2) (by decide) c7; have z3 := g_ne (i := 3) (by decide) c10; omega) (by decide) ?_
          refine lv_bipush (v := (-2 : Int32)) hx hb dX8_toldOfPart_80 (by decide) ?_
          exact g_iret hx hb hr hlocks hw hP hS dX8_toldOfPart_82
abbrev rmX8_letter : Room := { frames := 4, cells := 0, slots := 0, locals := 84 }
theorem eX8_letter : yX8_letter.cls = RX8 ∧ yX8_letter.cls ≠ "java/lang/invoke/MethodHandle" ∧ yX8_letter.cls ≠ "java/lang/invoke/VarHandle" ∧ (parseMethodDescriptor yX8_letter.desc).map (fun d => d.parameters.length) = some 2 := by decide +kernel
set_option maxHeartbeats 4000000 in
set_option maxRecDepth 100000 in
theorem qX8_letter (l : Launch) (D : va_G) (E : Nat → ClassId) (ad : Nat → Nat → Nat) (L : List (Nat × Nat)) (A : Nat → Prop) (hF : gF E ad L A) (hLx : gLx L) (M0 : gW) (a1 : Int32) (a2 : Int32)  (K : Int32 → gW → Prop) (hw : wX8_letter M0 a1 a2 K) : Met l yX8_letter wsX8_letter rmX8_letter (va_Pc [.ref (ad 0 0), .int a1, .int a2] (gPre D E ad L M0)) (gQi D E ad L A K) 0 0 A := by
  refine Met.ofW (cc := cX8_letter) (maxL := 3) (ret := (some .int)) (by decide) rfl ?_
  intro p e s m args below meth c s₁ B hml hv
  obtain ⟨rfl, hP, hK, hN⟩ := hv
  have hx := B.exec
  have hb := B.bytes
  have hr := B.returns
  have hts := atoms_spec (ws := wsX8_letter) B.pre
  have hown : s.vm.findClass RX8 = some m.cls := findClass_of_methodNamed B.named
  have hlocks := B.notSynchronized
  have S : CallFix p m c cX8_letter 3 s ([.ref (ad 0 0), .int a1, .int a2] : List Value).toArray wsX8_letter RX8 := ⟨hx, hb, hml, hown, hts⟩
  have hS : va_S A s.heap s.heap [] := va_S.rf
  have hl := lv_entry ([.ref (ad 0 0), .int a1, .int a2]) (n := 3) (Nat.le_of_ble_eq_true rfl)
  rw [lg_entry_eq]
  generalize (lg_sl ([.ref (ad 0 0), .int a1, .int a2]) ++ List.replicate (3 - (lg_sl ([.ref (ad 0 0), .int a1, .int a2])).length) Slot.unset).toArray = ls at hl ⊢
  have hl : lv_has ls 3 [(0, .ref (ad 0 0)), (1, .int a1), (2, .int a2)] := hl
  refine lv_iload_n hx hb dX8_letter_0 rfl (lv_at hl 1 rfl) ?_
  refine g_Si (As := [.int a1]) (rest := []) S hK hN hP hS (qX8_isLetter l D E ad L A hF hLx M0 a1  _ hw) (va_cwS 1 hts gX8_letter_X8_isLetter rfl rfl rfl eX8_isLetter.2 ⟨Nat.le_of_ble_eq_true rfl, Nat.le_of_ble_eq_true rfl⟩) rfl rfl hl.1 (Nat.le_of_ble_eq_true rfl) ⟨Nat.zero_le _, Nat.zero_le _⟩ dX8_letter_1 (fun r2 M1 H locs hw hP hS => ?_)
  refine lv_if_ne (tgt := 9) hx hb dX8_letter_4 (by decide) (fun c3 => ?_) (fun c3 => ?_)
  · have hw := hw.2 c3
    refine lv_aload_n hx hb dX8_letter_9 rfl (lv_at hl 0 rfl) ?_
    refine lv_iload_n hx hb dX8_letter_10 rfl (lv_at hl 1 rfl) ?_
    refine g_Si (As := [.int a1]) (rest := [.ref (ad 0 0)]) S hK hN hP hS (qX8_letterNumber l D E ad L A hF hLx M1 a1  _ hw) (va_cwS 1 hts gX8_letter_X8_letterNumber rfl rfl rfl eX8_letterNumber.2 ⟨Nat.le_of_ble_eq_true rfl, Nat.le_of_ble_eq_true rfl⟩) rfl rfl hl.1 (Nat.le_of_ble_eq_true rfl) ⟨Nat.zero_le _, Nat.zero_le _⟩ dX8_letter_11 (fun r5 M4 H locs hw hP hS => ?_)
    refine lv_iload_n hx hb dX8_letter_14 rfl (lv_at hl 2 rfl) ?_
    refine g_Vi (As := [.int r5, .int a2]) (rest := []) S hK hN hP hS (qX8_toldOfPart l D E ad L A hF hLx M4 r5 a2  _ hw) (cwV 2 hts gX8_letter_X8_toldOfPart rfl rfl rfl eX8_toldOfPart ⟨Nat.le_of_ble_eq_true rfl, Nat.le_of_ble_eq_true rfl⟩) (hLx.h (f := 0) (by decide)) (gC0 _ _ _ _) gcl8 rfl rfl rfl hl.1 (Nat.le_of_ble_eq_true rfl) ⟨Nat.zero_le _, Nat.zero_le _⟩ dX8_letter_15 (fun r7 M6 H locs hw hP hS => ?_)
    exact g_iret hx hb hr hlocks hw hP hS dX8_letter_18
  · have hw := hw.1 c3
    refine lv_iconst (v := (-1 : Int32)) hx hb dX8_letter_7 (by decide) ?_
    exact g_iret hx hb hr hlocks hw hP hS dX8_letter_8
abbrev rmX8_join : Room := { frames := 4, cells := 0, slots := 0, locals := 84 }
theorem eX8_join : yX8_join.cls = RX8 ∧ yX8_join.cls ≠ "java/lang/invoke/MethodHandle" ∧ yX8_join.cls ≠ "java/lang/invoke/VarHandle" ∧ (parseMethodDescriptor yX8_join.desc).map (fun d => d.parameters.length) = some 3 := by decide +kernel
set_option maxHeartbeats 4000000 in
set_option maxRecDepth 100000 in
theorem qX8_join (l : Launch) (D : va_G) (E : Nat → ClassId) (ad : Nat → Nat → Nat) (L : List (Nat × Nat)) (A : Nat → Prop) (hF : gF E ad L A) (hLx : gLx L) (M0 : gW) (a1 : Int32) (a2 : Int32) (a3 : Int32)  (K : Int32 → gW → Prop) (hw : wX8_join M0 a1 a2 a3 K) : Met l yX8_join wsX8_join rmX8_join (va_Pc [.ref (ad 0 0), .int a1, .int a2, .int a3] (gPre D E ad L M0)) (gQi D E ad L A K) 0 0 A := by
  refine Met.ofW (cc := cX8_join) (maxL := 4) (ret := (some .int)) (by decide) rfl ?_
  intro p e s m args below meth c s₁ B hml hv
  obtain ⟨rfl, hP, hK, hN⟩ := hv
  have hx := B.exec
  have hb := B.bytes
  have hr := B.returns
  have hts := atoms_spec (ws := wsX8_join) B.pre
  have hown : s.vm.findClass RX8 = some m.cls := findClass_of_methodNamed B.named
  have hlocks := B.notSynchronized
  have S : CallFix p m c cX8_join 4 s ([.ref (ad 0 0), .int a1, .int a2, .int a3] : List Value).toArray wsX8_join RX8 := ⟨hx, hb, hml, hown, hts⟩
  have hS : va_S A s.heap s.heap [] := va_S.rf
  have hl := lv_entry ([.ref (ad 0 0), .int a1, .int a2, .int a3]) (n := 4) (Nat.le_of_ble_eq_true rfl)
  rw [lg_entry_eq]
  generalize (lg_sl ([.ref (ad 0 0), .int a1, .int a2, .int a3]) ++ List.replicate (4 - (lg_sl ([.ref (ad 0 0), .int a1, .int a2, .int a3])).length) Slot.unset).toArray = ls at hl ⊢
  have hl : lv_has ls 4 [(0, .ref (ad 0 0)), (1, .int a1), (2, .int a2), (3, .int a3)] := hl
  refine lv_iload_n hx hb dX8_join_0 rfl (lv_at hl 1 rfl) ?_
  refine g_Si (As := [.int a1]) (rest := []) S hK hN hP hS (qX8_isLetter l D E ad L A hF hLx M0 a1  _ hw) (va_cwS 1 hts gX8_join_X8_isLetter rfl rfl rfl eX8_isLetter.2 ⟨Nat.le_of_ble_eq_true rfl, Nat.le_of_ble_eq_true rfl⟩) rfl rfl hl.1 (Nat.le_of_ble_eq_true rfl) ⟨Nat.zero_le _, Nat.zero_le _⟩ dX8_join_1 (fun r2 M1 H locs hw hP hS => ?_)
  refine lv_if_eq (tgt := 14) hx hb dX8_join_4 (by decide) (fun c3 => ?_) (fun c3 => ?_)
  · have hw := hw.1 c3
    refine lv_iconst (v := (-1 : Int32)) hx hb dX8_join_14 (by decide) ?_
    exact g_iret hx hb hr hlocks hw hP hS dX8_join_15
  · have hw := hw.2 c3
    refine lv_iload_n hx hb dX8_join_7 rfl (lv_at hl 2 rfl) ?_
    refine g_Si (As := [.int a2]) (rest := []) S hK hN hP hS (qX8_isLetter l D E ad L A hF hLx M1 a2  _ hw) (va_cwS 1 hts gX8_join_X8_isLetter rfl rfl rfl eX8_isLetter.2 ⟨Nat.le_of_ble_eq_true rfl, Nat.le_of_ble_eq_true rfl⟩) rfl rfl hl.1 (Nat.le_of_ble_eq_true rfl) ⟨Nat.zero_le _, Nat.zero_le _⟩ dX8_join_8 (fun r5 M4 H locs hw hP hS => ?_)
    refine lv_if_ne (tgt := 16) hx hb dX8_join_11 (by decide) (fun c6 => ?_) (fun c6 => ?_)
    · have hw := hw.2 c6
      refine lv_aload_n hx hb dX8_join_16 rfl (lv_at hl 0 rfl) ?_
      refine lv_iload_n hx hb dX8_join_17 rfl (lv_at hl 1 rfl) ?_
      refine g_Si (As := [.int a1]) (rest := [.ref (ad 0 0)]) S hK hN hP hS (qX8_letterNumber l D E ad L A hF hLx M4 a1  _ hw) (va_cwS 1 hts gX8_join_X8_letterNumber rfl rfl rfl eX8_letterNumber.2 ⟨Nat.le_of_ble_eq_true rfl, Nat.le_of_ble_eq_true rfl⟩) rfl rfl hl.1 (Nat.le_of_ble_eq_true rfl) ⟨Nat.zero_le _, Nat.zero_le _⟩ dX8_join_18 (fun r8 M7 H locs hw hP hS => ?_)
      refine lv_iload_n hx hb dX8_join_21 rfl (lv_at hl 2 rfl) ?_
      refine g_Si (As := [.int a2]) (rest := [.int r8, .ref (ad 0 0)]) S hK hN hP hS (qX8_letterNumber l D E ad L A hF hLx M7 a2  _ hw) (va_cwS 1 hts gX8_join_X8_letterNumber rfl rfl rfl eX8_letterNumber.2 ⟨Nat.le_of_ble_eq_true rfl, Nat.le_of_ble_eq_true rfl⟩) rfl rfl hl.1 (Nat.le_of_ble_eq_true rfl) ⟨Nat.zero_le _, Nat.zero_le _⟩ dX8_join_22 (fun r10 M9 H locs hw hP hS => ?_)
      refine g_Si (As := [.int r8, .int r10]) (rest := [.ref (ad 0 0)]) S hK hN hP hS (qX8_joinPart l D E ad L A hF hLx M9 r8 r10  _ hw) (va_cwS 2 hts gX8_join_X8_joinPart rfl rfl rfl eX8_joinPart.2 ⟨Nat.le_of_ble_eq_true rfl, Nat.le_of_ble_eq_true rfl⟩) rfl rfl hl.1 (Nat.le_of_ble_eq_true rfl) ⟨Nat.zero_le _, Nat.zero_le _⟩ dX8_join_25 (fun r12 M11 H locs hw hP hS => ?_)
      refine lv_iload_n hx hb dX8_join_28 rfl (lv_at hl 3 rfl) ?_
      refine g_Vi (As := [.int r12, .int a3]) (rest := []) S hK hN hP hS (qX8_toldOfPart l D E ad L A hF hLx M11 r12 a3  _ hw) (cwV 2 hts gX8_join_X8_toldOfPart rfl rfl rfl eX8_toldOfPart ⟨Nat.le_of_ble_eq_true rfl, Nat.le_of_ble_eq_true rfl⟩) (hLx.h (f := 0) (by decide)) (gC0 _ _ _ _) gcl8 rfl rfl rfl hl.1 (Nat.le_of_ble_eq_true rfl) ⟨Nat.zero_le _, Nat.zero_le _⟩ dX8_join_29 (fun r14 M13 H locs hw hP hS => ?_)
      exact g_iret hx hb hr hlocks hw hP hS dX8_join_32
    · have hw := hw.1 c6
      refine lv_iconst (v := (-1 : Int32)) hx hb dX8_join_14 (by decide) ?_
      exact g_iret hx hb hr hlocks hw hP hS dX8_join_15
abbrev rmX8_word : Room := { frames := 4, cells := 0, slots := 0, locals := 87 }
theorem eX8_word : yX8_word.cls = RX8 ∧ yX8_word.cls ≠ "java/lang/invoke/MethodHandle" ∧ yX8_word.cls ≠ "java/lang/invoke/VarHandle" ∧ (parseMethodDescriptor yX8_word.desc).map (fun d => d.parameters.length) = some 2 := by decide +kernel
theorem iX8_word_X8 : ∀ w ∈ wsX80, w ∈ wsX8_word := fun _ h => List.mem_cons_of_mem _ (List.mem_append_left _ (List.mem_append_left _ (List.mem_append_left _ (List.mem_append_left _ (List.mem_append_left _ (List.mem_append_right _ (h)))))))
theorem mX8_word_1 : Cond.fieldLink RX8 12 "PracticeSheets" "now" "LPracticeSheets$State;" ∈ wsX8_word := List.mem_of_getElem? (i := 1) rfl
theorem iX8_word_X4 : ∀ w ∈ wsX40, w ∈ wsX8_word := fun _ h => List.mem_cons_of_mem _ (List.mem_append_left _ (List.mem_append_left _ (List.mem_append_left _ (List.mem_append_left _ (List.mem_append_right _ (h))))))
theorem iX8_word_X6 : ∀ w ∈ wsX60, w ∈ wsX8_word := fun _ h => List.mem_cons_of_mem _ (List.mem_append_left _ (List.mem_append_left _ (List.mem_append_left _ (List.mem_append_right _ (h)))))
theorem mX8_word_2 : Cond.fieldLink RX8 39 "PracticeSheets" "plan" "LPracticeSheets$Sheet;" ∈ wsX8_word := List.mem_of_getElem? (i := 2) rfl
set_option maxHeartbeats 4000000 in
set_option maxRecDepth 100000 in
theorem qX8_word (l : Launch) (D : va_G) (E : Nat → ClassId) (ad : Nat → Nat → Nat) (L : List (Nat × Nat)) (A : Nat → Prop) (hF : gF E ad L A) (hLx : gLx L) (M0 : gW) (a1 : Int32) (a2 : Int32)  (K : Int32 → gW → Prop) (hw : wX8_word M0 a1 a2 K) : Met l yX8_word wsX8_word rmX8_word (va_Pc [.ref (ad 0 0), .int a1, .int a2] (gPre D E ad L M0)) (gQi D E ad L A K) 0 0 A := by
  refine Met.ofW (cc := cX8_word) (maxL := 4) (ret := (some .int)) (by decide) rfl ?_
  intro p e s m args below meth c s₁ B hml hv
  obtain ⟨rfl, hP, hK, hN⟩ := hv
  have hx := B.exec
  have hb := B.bytes
  have hr := B.returns
  have hts := atoms_spec (ws := wsX8_word) B.pre
  have hown : s.vm.findClass RX8 = some m.cls := findClass_of_methodNamed B.named
  have hlocks := B.notSynchronized
  have S : CallFix p m c cX8_word 4 s ([.ref (ad 0 0), .int a1, .int a2] : List Value).toArray wsX8_word RX8 := ⟨hx, hb, hml, hown, hts⟩
  have hS : va_S A s.heap s.heap [] := va_S.rf
  have hl := lv_entry ([.ref (ad 0 0), .int a1, .int a2]) (n := 4) (Nat.le_of_ble_eq_true rfl)
  rw [lg_entry_eq]
  generalize (lg_sl ([.ref (ad 0 0), .int a1, .int a2]) ++ List.replicate (4 - (lg_sl ([.ref (ad 0 0), .int a1, .int a2])).length) Slot.unset).toArray = ls at hl ⊢
  have hl : lv_has ls 4 [(0, .ref (ad 0 0)), (1, .int a1), (2, .int a2)] := hl
  refine lv_aload_n hx hb dX8_word_0 rfl (lv_at hl 0 rfl) ?_
  refine g_get (v := .ref (ad 1 0)) hx hb hts hown hK hP (hLx.h (f := 0) (by decide)) (gC0 _ _ _ _) gcl8 iX8_word_X8 0 (by decide) mX8_word_1 rfl rfl dX8_word_1 ?_
  refine g_getN (v := .ref (ad 5 0)) hx hb hts hown hK hN hP (hLx.h (f := 1) (by decide)) (gC1 _ _ _ _) gcl4 iX8_word_X4 1 (by decide) 18 rfl rfl rfl dX8_word_4 ?_
  refine lv_iload_n hx hb dX8_word_7 rfl (lv_at hl 1 rfl) ?_
  refine g_Vq (As := [.int a1]) (rest := []) S hK hN hP hS (qX7_at l D E ad L A hF hLx M0 0 a1 (by decide) _ hw) (cwV 1 hts gX8_word_X7_at rfl rfl rfl eX7_at ⟨Nat.le_of_ble_eq_true rfl, Nat.le_of_ble_eq_true rfl⟩) (hLx.h (f := 5) (by decide)) (gC5 _ _ _ _) gcl7 rfl rfl rfl hl.1 (Nat.le_of_ble_eq_true rfl) ⟨Nat.zero_le _, Nat.zero_le _⟩ dX8_word_8 (fun M1 H locs hw hP hS => ?_) (fun o2 M1 H locs hw hP hS => ?_)
  · have hw := hw.1 rfl
    refine lv_astore_nN (lv' := [(3, .null), (0, .ref (ad 0 0)), (1, .int a1), (2, .int a2)]) hx hb dX8_word_11 rfl hl (by decide) rfl (fun ls hl => ?_)
    refine lv_aload_nN hx hb dX8_word_12 rfl (lv_at hl 0 rfl) ?_
    refine lv_ifnonnullN hx hb dX8_word_13 ?_
    refine lv_iconst (v := (-1 : Int32)) hx hb dX8_word_16 (by decide) ?_
    exact g_iret hx hb hr hlocks hw hP hS dX8_word_17
  · have hw := hw.2 o2 rfl
    have hb4 := hw.1
    have hw := hw.2
    refine lv_astore_n (lv' := [(3, .ref (ad 7 o2)), (0, .ref (ad 0 0)), (1, .int a1), (2, .int a2)]) hx hb dX8_word_11 rfl hl (by decide) rfl (fun ls hl => ?_)
    refine lv_aload_n hx hb dX8_word_12 rfl (lv_at hl 0 rfl) ?_
    refine lv_ifnonnull (tgt := 18) hx hb dX8_word_13 (by decide) ?_
    refine lv_iload_n hx hb dX8_word_18 rfl (lv_at hl 3 rfl) ?_
    by_cases c5 : a2 = (0 : Int32)
    · have hw := hw.1 c5
      refine g_swK (tgt := 52) hx hb dX8_word_19 0 c5 (by decide) (by decide) rfl (by decide) ?_
      refine lv_aload_n hx hb dX8_word_52 rfl (lv_at hl 0 rfl) ?_
      refine g_getN (v := .int (M1 7 o2 2)) hx hb hts hown hK hN hP (hLx.h (f := 7) hb4) (gC7 _ _ _ _) gcl6 iX8_word_X6 2 (by decide) 6 rfl rfl rfl dX8_word_53 ?_
      exact g_iret hx hb hr hlocks hw hP hS dX8_word_56
    · 
      by_cases c6 : a2 = (1 : Int32)
      · have hw := hw.2.1 c6
        refine g_swK (tgt := 57) hx hb dX8_word_19 1 c6 (by decide) (by decide) rfl (by decide) ?_
        refine lv_aload_n hx hb dX8_word_57 rfl (lv_at hl 1 rfl) ?_
        refine g_get (v := .ref (ad 1 0)) hx hb hts hown hK hP (hLx.h (f := 0) (by decide)) (gC0 _ _ _ _) gcl8 iX8_word_X8 0 (by decide) mX8_word_1 rfl rfl dX8_word_58 ?_
        refine g_getN (v := .ref (ad 2 0)) hx hb hts hown hK hN hP (hLx.h (f := 1) (by decide)) (gC1 _ _ _ _) gcl4 iX8_word_X4 0 (by decide) 15 rfl rfl rfl dX8_word_61 ?_
        refine lv_aload_n hx hb dX8_word_64 rfl (lv_at hl 0 rfl) ?_
        refine g_Vi (As := [.ref (ad 7 o2)]) (rest := []) S hK hN hP hS (qX1_needOfAll l D E ad L A hF hLx M1 0 o2 (by decide) hb4 _ hw) (cwV 1 hts gX8_word_X1_needOfAll rfl rfl rfl eX1_needOfAll ⟨Nat.le_of_ble_eq_true rfl, Nat.le_of_ble_eq_true rfl⟩) (hLx.h (f := 2) (by decide)) (gC2 _ _ _ _) gcl1 rfl rfl rfl hl.1 (Nat.le_of_ble_eq_true rfl) ⟨Nat.zero_le _, Nat.zero_le _⟩ dX8_word_65 (fun r8 M7 H locs hw hP hS => ?_)
        exact g_iret hx hb hr hlocks hw hP hS dX8_word_68
      · 
        by_cases c9 : a2 = (2 : Int32)
        · have hw := hw.2.2.1 c9
          refine g_swK (tgt := 69) hx hb dX8_word_19 2 c9 (by decide) (by decide) rfl (by decide) ?_
          refine lv_aload_n hx hb dX8_word_69 rfl (lv_at hl 0 rfl) ?_
          refine g_getN (v := .int (M1 7 o2 3)) hx hb hts hown hK hN hP (hLx.h (f := 7) hb4) (gC7 _ _ _ _) gcl6 iX8_word_X6 3 (by decide) 9 rfl rfl rfl dX8_word_70 ?_
          exact g_iret hx hb hr hlocks hw hP hS dX8_word_73
        · 
          by_cases c10 : a2 = (3 : Int32)
          · have hw := hw.2.2.2.1 c10
            refine g_swK (tgt := 74) hx hb dX8_word_19 3 c10 (by decide) (by decide) rfl (by decide) ?_
            refine lv_aload_n hx hb dX8_word_74 rfl (lv_at hl 1 rfl) ?_
            refine g_get (v := .ref (ad 1 0)) hx hb hts hown hK hP (hLx.h (f := 0) (by decide)) (gC0 _ _ _ _) gcl8 iX8_word_X8 0 (by decide) mX8_word_1 rfl rfl dX8_word_75 ?_
            refine g_getN (v := .ref (ad 2 0)) hx hb hts hown hK hN hP (hLx.h (f := 1) (by decide)) (gC1 _ _ _ _) gcl4 iX8_word_X4 0 (by decide) 15 rfl rfl rfl dX8_word_78 ?_
            refine lv_aload_n hx hb dX8_word_81 rfl (lv_at hl 0 rfl) ?_
            refine g_Vi (As := [.ref (ad 7 o2)]) (rest := []) S hK hN hP hS (qX1_untriedOf l D E ad L A hF hLx M1 0 o2 (by decide) hb4 _ hw) (cwV 1 hts gX8_word_X1_untriedOf rfl rfl rfl eX1_untriedOf ⟨Nat.le_of_ble_eq_true rfl, Nat.le_of_ble_eq_true rfl⟩) (hLx.h (f := 2) (by decide)) (gC2 _ _ _ _) gcl1 rfl rfl rfl hl.1 (Nat.le_of_ble_eq_true rfl) ⟨Nat.zero_le _, Nat.zero_le _⟩ dX8_word_82 (fun r12 M11 H locs hw hP hS => ?_)
            exact g_iret hx hb hr hlocks hw hP hS dX8_word_85
          · 
            by_cases c13 : a2 = (4 : Int32)
            · have hw := hw.2.2.2.2.1 c13
              refine g_swK (tgt := 86) hx hb dX8_word_19 4 c13 (by decide) (by decide) rfl (by decide) ?_
              refine lv_aload_n hx hb dX8_word_86 rfl (lv_at hl 1 rfl) ?_
              refine g_get (v := .ref (ad 14 0)) hx hb hts hown hK hP (hLx.h (f := 0) (by decide)) (gC0 _ _ _ _) gcl8 iX8_word_X8 5 (by decide) mX8_word_2 rfl rfl dX8_word_87 ?_
              refine g_Vv (As := []) (rest := []) S hK hN hP hS (qX3_clear l D E ad L A hF hLx M1  _ hw) (cwV 0 hts gX8_word_X3_clear rfl rfl rfl eX3_clear ⟨Nat.le_of_ble_eq_true rfl, Nat.le_of_ble_eq_true rfl⟩) (hLx.h (f := 14) (by decide)) (gC14 _ _ _ _) gcl3 rfl rfl rfl hl.1 (Nat.le_of_ble_eq_true rfl) ⟨Nat.zero_le _, Nat.zero_le _⟩ dX8_word_90 (fun M14 H locs hw hP hS => ?_)
              refine lv_aload_n hx hb dX8_word_93 rfl (lv_at hl 1 rfl) ?_
              refine g_get (v := .ref (ad 14 0)) hx hb hts hown hK hP (hLx.h (f := 0) (by decide)) (gC0 _ _ _ _) gcl8 iX8_word_X8 5 (by decide) mX8_word_2 rfl rfl dX8_word_94 ?_
              refine lv_aload_n hx hb dX8_word_97 rfl (lv_at hl 0 rfl) ?_
              refine lv_aload_n hx hb dX8_word_98 rfl (lv_at hl 1 rfl) ?_
              refine g_get (v := .ref (ad 1 0)) hx hb hts hown hK hP (hLx.h (f := 0) (by decide)) (gC0 _ _ _ _) gcl8 iX8_word_X8 0 (by decide) mX8_word_1 rfl rfl dX8_word_99 ?_
              refine g_Vi (As := [.ref (ad 7 o2), .ref (ad 1 0)]) (rest := []) S hK hN hP hS (qX3_gainOf l D E ad L A hF hLx M14 o2 0 hb4 (by decide) _ hw) (cwV 2 hts gX8_word_X3_gainOf rfl rfl rfl eX3_gainOf ⟨Nat.le_of_ble_eq_true rfl, Nat.le_of_ble_eq_true rfl⟩) (hLx.h (f := 14) (by decide)) (gC14 _ _ _ _) gcl3 rfl rfl rfl hl.1 (Nat.le_of_ble_eq_true rfl) ⟨Nat.zero_le _, Nat.zero_le _⟩ dX8_word_102 (fun r16 M15 H locs hw hP hS => ?_)
              exact g_iret hx hb hr hlocks hw hP hS dX8_word_105
            · have hw := hw.2.2.2.2.2 c5 c6 c9 c10 c13
              refine lv_tableOut (tgt := 106) hx hb dX8_word_19 (by have z0 := g_ne (i := 0) (by decide) c5; have z1 := g_ne (i := 1) (by decide) c6; have z2 := g_ne (i := 2) (by decide) c9; have z3 := g_ne (i := 3) (by decide) c10; have z4 := g_ne (i := 4) (by decide) c13; omega) (by decide) ?_
              refine lv_bipush (v := (-2 : Int32)) hx hb dX8_word_106 (by decide) ?_
              exact g_iret hx hb hr hlocks hw hP hS dX8_word_108
abbrev rmX8_letterOf : Room := { frames := 1, cells := 0, slots := 0, locals := 21 }
theorem eX8_letterOf : yX8_letterOf.cls = RX8 ∧ yX8_letterOf.cls ≠ "java/lang/invoke/MethodHandle" ∧ yX8_letterOf.cls ≠ "java/lang/invoke/VarHandle" ∧ (parseMethodDescriptor yX8_letterOf.desc).map (fun d => d.parameters.length) = some 2 := by decide +kernel
theorem iX8_letterOf_X8 : ∀ w ∈ wsX80, w ∈ wsX8_letterOf := fun _ h => List.mem_cons_of_mem _ (List.mem_append_left _ (List.mem_append_left _ (List.mem_append_left _ (List.mem_append_right _ (h)))))
theorem mX8_letterOf_1 : Cond.fieldLink RX8 12 "PracticeSheets" "now" "LPracticeSheets$State;" ∈ wsX8_letterOf := List.mem_of_getElem? (i := 1) rfl
theorem iX8_letterOf_X4 : ∀ w ∈ wsX40, w ∈ wsX8_letterOf := fun _ h => List.mem_cons_of_mem _ (List.mem_append_left _ (List.mem_append_left _ (List.mem_append_right _ (h))))
theorem iX8_letterOf_X6 : ∀ w ∈ wsX60, w ∈ wsX8_letterOf := fun _ h => List.mem_cons_of_mem _ (List.mem_append_left _ (List.mem_append_right _ (h)))
set_option maxHeartbeats 4000000 in
set_option maxRecDepth 100000 in
theorem qX8_letterOf (l : Launch) (D : va_G) (E : Nat → ClassId) (ad : Nat → Nat → Nat) (L : List (Nat × Nat)) (A : Nat → Prop) (hF : gF E ad L A) (hLx : gLx L) (M0 : gW) (a1 : Int32) (a2 : Int32)  (K : Int32 → gW → Prop) (hw : wX8_letterOf M0 a1 a2 K) : Met l yX8_letterOf wsX8_letterOf rmX8_letterOf (va_Pc [.ref (ad 0 0), .int a1, .int a2] (gPre D E ad L M0)) (gQi D E ad L A K) 0 0 A := by
  refine Met.ofW (cc := cX8_letterOf) (maxL := 4) (ret := (some .int)) (by decide) rfl ?_
  intro p e s m args below meth c s₁ B hml hv
  obtain ⟨rfl, hP, hK, hN⟩ := hv
  have hx := B.exec
  have hb := B.bytes
  have hr := B.returns
  have hts := atoms_spec (ws := wsX8_letterOf) B.pre
  have hown : s.vm.findClass RX8 = some m.cls := findClass_of_methodNamed B.named
  have hlocks := B.notSynchronized
  have S : CallFix p m c cX8_letterOf 4 s ([.ref (ad 0 0), .int a1, .int a2] : List Value).toArray wsX8_letterOf RX8 := ⟨hx, hb, hml, hown, hts⟩
  have hS : va_S A s.heap s.heap [] := va_S.rf
  have hl := lv_entry ([.ref (ad 0 0), .int a1, .int a2]) (n := 4) (Nat.le_of_ble_eq_true rfl)
  rw [lg_entry_eq]
  generalize (lg_sl ([.ref (ad 0 0), .int a1, .int a2]) ++ List.replicate (4 - (lg_sl ([.ref (ad 0 0), .int a1, .int a2])).length) Slot.unset).toArray = ls at hl ⊢
  have hl : lv_has ls 4 [(0, .ref (ad 0 0)), (1, .int a1), (2, .int a2)] := hl
  refine lv_aload_n hx hb dX8_letterOf_0 rfl (lv_at hl 0 rfl) ?_
  refine g_get (v := .ref (ad 1 0)) hx hb hts hown hK hP (hLx.h (f := 0) (by decide)) (gC0 _ _ _ _) gcl8 iX8_letterOf_X8 0 (by decide) mX8_letterOf_1 rfl rfl dX8_letterOf_1 ?_
  refine g_getN (v := .ref (ad 5 0)) hx hb hts hown hK hN hP (hLx.h (f := 1) (by decide)) (gC1 _ _ _ _) gcl4 iX8_letterOf_X4 1 (by decide) 18 rfl rfl rfl dX8_letterOf_4 ?_
  refine lv_iload_n hx hb dX8_letterOf_7 rfl (lv_at hl 1 rfl) ?_
  refine g_Vq (As := [.int a1]) (rest := []) S hK hN hP hS (qX7_at l D E ad L A hF hLx M0 0 a1 (by decide) _ hw) (cwV 1 hts gX8_letterOf_X7_at rfl rfl rfl eX7_at ⟨Nat.le_of_ble_eq_true rfl, Nat.le_of_ble_eq_true rfl⟩) (hLx.h (f := 5) (by decide)) (gC5 _ _ _ _) gcl7 rfl rfl rfl hl.1 (Nat.le_of_ble_eq_true rfl) ⟨Nat.zero_le _, Nat.zero_le _⟩ dX8_letterOf_8 (fun M1 H locs hw hP hS => ?_) (fun o2 M1 H locs hw hP hS => ?_)
  · have hw := hw.1 rfl
    refine lv_astore_nN (lv' := [(3, .null), (0, .ref (ad 0 0)), (1, .int a1), (2, .int a2)]) hx hb dX8_letterOf_11 rfl hl (by decide) rfl (fun ls hl => ?_)
    refine lv_aload_nN hx hb dX8_letterOf_12 rfl (lv_at hl 0 rfl) ?_
    refine lv_ifnonnullN hx hb dX8_letterOf_13 ?_
    refine lv_iconst (v := (-1 : Int32)) hx hb dX8_letterOf_16 (by decide) ?_
    exact g_iret hx hb hr hlocks hw hP hS dX8_letterOf_17
  · have hw := hw.2 o2 rfl
    have hb4 := hw.1
    have hw := hw.2
    refine lv_astore_n (lv' := [(3, .ref (ad 7 o2)), (0, .ref (ad 0 0)), (1, .int a1), (2, .int a2)]) hx hb dX8_letterOf_11 rfl hl (by decide) rfl (fun ls hl => ?_)
    refine lv_aload_n hx hb dX8_letterOf_12 rfl (lv_at hl 0 rfl) ?_
    refine lv_ifnonnull (tgt := 18) hx hb dX8_letterOf_13 (by decide) ?_
    refine lv_iload_n hx hb dX8_letterOf_18 rfl (lv_at hl 3 rfl) ?_
    refine lv_if_ge (tgt := 25) hx hb dX8_letterOf_19 (by decide) (fun c5 => ?_) (fun c5 => ?_)
    · have hw := hw.1 c5
      refine lv_iload_n hx hb dX8_letterOf_25 rfl (lv_at hl 3 rfl) ?_
      refine lv_aload_n hx hb dX8_letterOf_26 rfl (lv_at hl 0 rfl) ?_
      refine g_getN (v := .int (M1 7 o2 2)) hx hb hts hown hK hN hP (hLx.h (f := 7) hb4) (gC7 _ _ _ _) gcl6 iX8_letterOf_X6 2 (by decide) 6 rfl rfl rfl dX8_letterOf_27 ?_
      refine lv_icmp_ge (tgt := 42) hx hb dX8_letterOf_30 (by decide) (fun c6 => ?_) (fun c6 => ?_)
      · have hw := hw.1 c6
        refine lv_bipush (v := (-5 : Int32)) hx hb dX8_letterOf_42 (by decide) ?_
        exact g_iret hx hb hr hlocks hw hP hS dX8_letterOf_44
      · have hw := hw.2 c6
        refine lv_aload_n hx hb dX8_letterOf_33 rfl (lv_at hl 0 rfl) ?_
        refine g_getN (v := .ref (ad 8 o2)) hx hb hts hown hK hN hP (hLx.h (f := 7) hb4) (gC7 _ _ _ _) gcl6 iX8_letterOf_X6 0 (by decide) 1 rfl rfl rfl dX8_letterOf_34 ?_
        refine lv_iload_n hx hb dX8_letterOf_37 rfl (lv_at hl 3 rfl) ?_
        have hb7 := hw.1
        have hw := hw.2
        refine g_iald hx hb hK hP (hLx.h (f := 8) hb4) (gC8 _ _ _ _) hb7 dX8_letterOf_38 ?_
        refine lv_goto (tgt := 44) hx hb dX8_letterOf_39 (by decide) ?_
        exact g_iret hx hb hr hlocks hw hP hS dX8_letterOf_44
    · have hw := hw.2 c5
      refine lv_bipush (v := (-2 : Int32)) hx hb dX8_letterOf_22 (by decide) ?_
      exact g_iret hx hb hr hlocks hw hP hS dX8_letterOf_24
abbrev rmX8_sheet : Room := { frames := 6, cells := 0, slots := 0, locals := 138 }
theorem eX8_sheet : yX8_sheet.cls = RX8 ∧ yX8_sheet.cls ≠ "java/lang/invoke/MethodHandle" ∧ yX8_sheet.cls ≠ "java/lang/invoke/VarHandle" ∧ (parseMethodDescriptor yX8_sheet.desc).map (fun d => d.parameters.length) = some 3 := by decide +kernel
theorem iX8_sheet_X8 : ∀ w ∈ wsX80, w ∈ wsX8_sheet := fun _ h => List.mem_cons_of_mem _ (List.mem_append_left _ (List.mem_append_left _ (List.mem_append_left _ (List.mem_append_left _ (List.mem_append_left _ (List.mem_append_right _ (h)))))))
theorem mX8_sheet_1 : Cond.fieldLink RX8 39 "PracticeSheets" "plan" "LPracticeSheets$Sheet;" ∈ wsX8_sheet := List.mem_of_getElem? (i := 1) rfl
theorem mX8_sheet_2 : Cond.fieldLink RX8 12 "PracticeSheets" "now" "LPracticeSheets$State;" ∈ wsX8_sheet := List.mem_of_getElem? (i := 2) rfl
theorem iX8_sheet_X3 : ∀ w ∈ wsX30, w ∈ wsX8_sheet := fun _ h => List.mem_cons_of_mem _ (List.mem_append_left _ (List.mem_append_left _ (List.mem_append_left _ (List.mem_append_left _ (List.mem_append_right _ (h))))))
set_option maxHeartbeats 4000000 in
set_option maxRecDepth 100000 in
theorem qX8_sheet (l : Launch) (D : va_G) (E : Nat → ClassId) (ad : Nat → Nat → Nat) (L : List (Nat × Nat)) (A : Nat → Prop) (hF : gF E ad L A) (hLx : gLx L) (M0 : gW) (a1 : Int32) (a2 : Int32) (a3 : Int32)  (K : Int32 → gW → Prop) (hw : wX8_sheet M0 a1 a2 a3 K) : Met l yX8_sheet wsX8_sheet rmX8_sheet (va_Pc [.ref (ad 0 0), .int a1, .int a2, .int a3] (gPre D E ad L M0)) (gQi D E ad L A K) 0 0 A := by
  refine Met.ofW (cc := cX8_sheet) (maxL := 4) (ret := (some .int)) (by decide) rfl ?_
  intro p e s m args below meth c s₁ B hml hv
  obtain ⟨rfl, hP, hK, hN⟩ := hv
  have hx := B.exec
  have hb := B.bytes
  have hr := B.returns
  have hts := atoms_spec (ws := wsX8_sheet) B.pre
  have hown : s.vm.findClass RX8 = some m.cls := findClass_of_methodNamed B.named
  have hlocks := B.notSynchronized
  have S : CallFix p m c cX8_sheet 4 s ([.ref (ad 0 0), .int a1, .int a2, .int a3] : List Value).toArray wsX8_sheet RX8 := ⟨hx, hb, hml, hown, hts⟩
  have hS : va_S A s.heap s.heap [] := va_S.rf
  have hl := lv_entry ([.ref (ad 0 0), .int a1, .int a2, .int a3]) (n := 4) (Nat.le_of_ble_eq_true rfl)
  rw [lg_entry_eq]
  generalize (lg_sl ([.ref (ad 0 0), .int a1, .int a2, .int a3]) ++ List.replicate (4 - (lg_sl ([.ref (ad 0 0), .int a1, .int a2, .int a3])).length) Slot.unset).toArray = ls at hl ⊢
  have hl : lv_has ls 4 [(0, .ref (ad 0 0)), (1, .int a1), (2, .int a2), (3, .int a3)] := hl
  refine lv_iload_n hx hb dX8_sheet_0 rfl (lv_at hl 1 rfl) ?_
  refine g_Si (As := [.int a1]) (rest := []) S hK hN hP hS (qX8_areLines l D E ad L A hF hLx M0 a1  _ hw) (va_cwS 1 hts gX8_sheet_X8_areLines rfl rfl rfl eX8_areLines.2 ⟨Nat.le_of_ble_eq_true rfl, Nat.le_of_ble_eq_true rfl⟩) rfl rfl hl.1 (Nat.le_of_ble_eq_true rfl) ⟨Nat.zero_le _, Nat.zero_le _⟩ dX8_sheet_1 (fun r2 M1 H locs hw hP hS => ?_)
  refine lv_if_eq (tgt := 20) hx hb dX8_sheet_4 (by decide) (fun c3 => ?_) (fun c3 => ?_)
  · have hw := hw.1 c3
    refine lv_bipush (v := (-2 : Int32)) hx hb dX8_sheet_20 (by decide) ?_
    exact g_iret hx hb hr hlocks hw hP hS dX8_sheet_22
  · have hw := hw.2 c3
    refine lv_iload_n hx hb dX8_sheet_7 rfl (lv_at hl 2 rfl) ?_
    refine lv_if_lt (tgt := 20) hx hb dX8_sheet_8 (by decide) (fun c4 => ?_) (fun c4 => ?_)
    · have hw := hw.1 c4
      refine lv_bipush (v := (-2 : Int32)) hx hb dX8_sheet_20 (by decide) ?_
      exact g_iret hx hb hr hlocks hw hP hS dX8_sheet_22
    · have hw := hw.2 c4
      refine lv_iload_n hx hb dX8_sheet_11 rfl (lv_at hl 3 rfl) ?_
      refine lv_if_lt (tgt := 20) hx hb dX8_sheet_12 (by decide) (fun c5 => ?_) (fun c5 => ?_)
      · have hw := hw.1 c5
        refine lv_bipush (v := (-2 : Int32)) hx hb dX8_sheet_20 (by decide) ?_
        exact g_iret hx hb hr hlocks hw hP hS dX8_sheet_22
      · have hw := hw.2 c5
        refine lv_iload_n hx hb dX8_sheet_15 rfl (lv_at hl 3 rfl) ?_
        refine lv_iconst (v := (1 : Int32)) hx hb dX8_sheet_16 (by decide) ?_
        refine lv_icmp_le (tgt := 23) hx hb dX8_sheet_17 (by decide) (fun c6 => ?_) (fun c6 => ?_)
        · have hw := hw.1 c6
          refine lv_aload_n hx hb dX8_sheet_23 rfl (lv_at hl 0 rfl) ?_
          refine g_get (v := .ref (ad 14 0)) hx hb hts hown hK hP (hLx.h (f := 0) (by decide)) (gC0 _ _ _ _) gcl8 iX8_sheet_X8 5 (by decide) mX8_sheet_1 rfl rfl dX8_sheet_24 ?_
          refine lv_aload_n hx hb dX8_sheet_27 rfl (lv_at hl 0 rfl) ?_
          refine g_get (v := .ref (ad 1 0)) hx hb hts hown hK hP (hLx.h (f := 0) (by decide)) (gC0 _ _ _ _) gcl8 iX8_sheet_X8 0 (by decide) mX8_sheet_2 rfl rfl dX8_sheet_28 ?_
          refine lv_iload_n hx hb dX8_sheet_31 rfl (lv_at hl 1 rfl) ?_
          refine g_Vv (As := [.ref (ad 1 0), .int a1]) (rest := []) S hK hN hP hS (qX3_choose l D E ad L A hF hLx M1 0 a1 (by decide) _ hw) (cwV 2 hts gX8_sheet_X3_choose rfl rfl rfl eX3_choose ⟨Nat.le_of_ble_eq_true rfl, Nat.le_of_ble_eq_true rfl⟩) (hLx.h (f := 14) (by decide)) (gC14 _ _ _ _) gcl3 rfl rfl rfl hl.1 (Nat.le_of_ble_eq_true rfl) ⟨Nat.zero_le _, Nat.zero_le _⟩ dX8_sheet_32 (fun M7 H locs hw hP hS => ?_)
          refine lv_iload_n hx hb dX8_sheet_35 rfl (lv_at hl 2 rfl) ?_
          refine lv_aload_n hx hb dX8_sheet_36 rfl (lv_at hl 0 rfl) ?_
          refine g_get (v := .ref (ad 14 0)) hx hb hts hown hK hP (hLx.h (f := 0) (by decide)) (gC0 _ _ _ _) gcl8 iX8_sheet_X8 5 (by decide) mX8_sheet_1 rfl rfl dX8_sheet_37 ?_
          refine g_getN (v := .int (M7 14 0 4)) hx hb hts hown hK hN hP (hLx.h (f := 14) (by decide)) (gC14 _ _ _ _) gcl3 iX8_sheet_X3 4 (by decide) 31 rfl rfl rfl dX8_sheet_40 ?_
          refine lv_icmp_lt (tgt := 49) hx hb dX8_sheet_43 (by decide) (fun c8 => ?_) (fun c8 => ?_)
          · have hw := hw.1 c8
            refine lv_iload_n hx hb dX8_sheet_49 rfl (lv_at hl 3 rfl) ?_
            refine lv_if_ne (tgt := 65) hx hb dX8_sheet_50 (by decide) (fun c9 => ?_) (fun c9 => ?_)
            · have hw := hw.2 c9
              refine lv_aload_n hx hb dX8_sheet_65 rfl (lv_at hl 0 rfl) ?_
              refine g_get (v := .ref (ad 14 0)) hx hb hts hown hK hP (hLx.h (f := 0) (by decide)) (gC0 _ _ _ _) gcl8 iX8_sheet_X8 5 (by decide) mX8_sheet_1 rfl rfl dX8_sheet_66 ?_
              refine g_getN (v := .ref (ad 16 0)) hx hb hts hown hK hN hP (hLx.h (f := 14) (by decide)) (gC14 _ _ _ _) gcl3 iX8_sheet_X3 1 (by decide) 29 rfl rfl rfl dX8_sheet_69 ?_
              refine lv_iload_n hx hb dX8_sheet_72 rfl (lv_at hl 2 rfl) ?_
              have hb10 := hw.1
              have hw := hw.2
              refine g_iald hx hb hK hP (hLx.h (f := 16) (by decide)) (gC16 _ _ _ _) hb10 dX8_sheet_73 ?_
              exact g_iret hx hb hr hlocks hw hP hS dX8_sheet_74
            · have hw := hw.1 c9
              refine lv_aload_n hx hb dX8_sheet_53 rfl (lv_at hl 0 rfl) ?_
              refine g_get (v := .ref (ad 14 0)) hx hb hts hown hK hP (hLx.h (f := 0) (by decide)) (gC0 _ _ _ _) gcl8 iX8_sheet_X8 5 (by decide) mX8_sheet_1 rfl rfl dX8_sheet_54 ?_
              refine g_getN (v := .ref (ad 15 0)) hx hb hts hown hK hN hP (hLx.h (f := 14) (by decide)) (gC14 _ _ _ _) gcl3 iX8_sheet_X3 0 (by decide) 28 rfl rfl rfl dX8_sheet_57 ?_
              refine lv_iload_n hx hb dX8_sheet_60 rfl (lv_at hl 2 rfl) ?_
              have hb11 := hw.1
              have hw := hw.2
              refine g_iald hx hb hK hP (hLx.h (f := 15) (by decide)) (gC15 _ _ _ _) hb11 dX8_sheet_61 ?_
              refine lv_goto (tgt := 74) hx hb dX8_sheet_62 (by decide) ?_
              exact g_iret hx hb hr hlocks hw hP hS dX8_sheet_74
          · have hw := hw.2 c8
            refine lv_bipush (v := (-5 : Int32)) hx hb dX8_sheet_46 (by decide) ?_
            exact g_iret hx hb hr hlocks hw hP hS dX8_sheet_48
        · have hw := hw.2 c6
          refine lv_bipush (v := (-2 : Int32)) hx hb dX8_sheet_20 (by decide) ?_
          exact g_iret hx hb hr hlocks hw hP hS dX8_sheet_22
abbrev rmX8_covers : Room := { frames := 6, cells := 0, slots := 0, locals := 138 }
theorem eX8_covers : yX8_covers.cls = RX8 ∧ yX8_covers.cls ≠ "java/lang/invoke/MethodHandle" ∧ yX8_covers.cls ≠ "java/lang/invoke/VarHandle" ∧ (parseMethodDescriptor yX8_covers.desc).map (fun d => d.parameters.length) = some 2 := by decide +kernel
theorem iX8_covers_X8 : ∀ w ∈ wsX80, w ∈ wsX8_covers := fun _ h => List.mem_cons_of_mem _ (List.mem_append_left _ (List.mem_append_left _ (List.mem_append_left _ (List.mem_append_left _ (List.mem_append_left _ (List.mem_append_right _ (h)))))))
theorem mX8_covers_1 : Cond.fieldLink RX8 39 "PracticeSheets" "plan" "LPracticeSheets$Sheet;" ∈ wsX8_covers := List.mem_of_getElem? (i := 1) rfl
theorem mX8_covers_2 : Cond.fieldLink RX8 12 "PracticeSheets" "now" "LPracticeSheets$State;" ∈ wsX8_covers := List.mem_of_getElem? (i := 2) rfl
theorem iX8_covers_X3 : ∀ w ∈ wsX30, w ∈ wsX8_covers := fun _ h => List.mem_cons_of_mem _ (List.mem_append_left _ (List.mem_append_left _ (List.mem_append_left _ (List.mem_append_left _ (List.mem_append_right _ (h))))))
theorem iX8_covers_X4 : ∀ w ∈ wsX40, w ∈ wsX8_covers := fun _ h => List.mem_cons_of_mem _ (List.mem_append_left _ (List.mem_append_left _ (List.mem_append_left _ (List.mem_append_right _ (h)))))
set_option maxHeartbeats 4000000 in
set_option maxRecDepth 100000 in
theorem qX8_covers (l : Launch) (D : va_G) (E : Nat → ClassId) (ad : Nat → Nat → Nat) (L : List (Nat × Nat)) (A : Nat → Prop) (hF : gF E ad L A) (hLx : gLx L) (M0 : gW) (a1 : Int32) (a2 : Int32)  (K : Int32 → gW → Prop) (hw : wX8_covers M0 a1 a2 K) : Met l yX8_covers wsX8_covers rmX8_covers (va_Pc [.ref (ad 0 0), .int a1, .int a2] (gPre D E ad L M0)) (gQi D E ad L A K) 0 0 A := by
  refine Met.ofW (cc := cX8_covers) (maxL := 3) (ret := (some .int)) (by decide) rfl ?_
  intro p e s m args below meth c s₁ B hml hv
  obtain ⟨rfl, hP, hK, hN⟩ := hv
  have hx := B.exec
  have hb := B.bytes
  have hr := B.returns
  have hts := atoms_spec (ws := wsX8_covers) B.pre
  have hown : s.vm.findClass RX8 = some m.cls := findClass_of_methodNamed B.named
  have hlocks := B.notSynchronized
  have S : CallFix p m c cX8_covers 3 s ([.ref (ad 0 0), .int a1, .int a2] : List Value).toArray wsX8_covers RX8 := ⟨hx, hb, hml, hown, hts⟩
  have hS : va_S A s.heap s.heap [] := va_S.rf
  have hl := lv_entry ([.ref (ad 0 0), .int a1, .int a2]) (n := 3) (Nat.le_of_ble_eq_true rfl)
  rw [lg_entry_eq]
  generalize (lg_sl ([.ref (ad 0 0), .int a1, .int a2]) ++ List.replicate (3 - (lg_sl ([.ref (ad 0 0), .int a1, .int a2])).length) Slot.unset).toArray = ls at hl ⊢
  have hl : lv_has ls 3 [(0, .ref (ad 0 0)), (1, .int a1), (2, .int a2)] := hl
  refine lv_iload_n hx hb dX8_covers_0 rfl (lv_at hl 1 rfl) ?_
  refine g_Si (As := [.int a1]) (rest := []) S hK hN hP hS (qX8_areLines l D E ad L A hF hLx M0 a1  _ hw) (va_cwS 1 hts gX8_covers_X8_areLines rfl rfl rfl eX8_areLines.2 ⟨Nat.le_of_ble_eq_true rfl, Nat.le_of_ble_eq_true rfl⟩) rfl rfl hl.1 (Nat.le_of_ble_eq_true rfl) ⟨Nat.zero_le _, Nat.zero_le _⟩ dX8_covers_1 (fun r2 M1 H locs hw hP hS => ?_)
  refine lv_if_eq (tgt := 16) hx hb dX8_covers_4 (by decide) (fun c3 => ?_) (fun c3 => ?_)
  · have hw := hw.1 c3
    refine lv_bipush (v := (-2 : Int32)) hx hb dX8_covers_16 (by decide) ?_
    exact g_iret hx hb hr hlocks hw hP hS dX8_covers_18
  · have hw := hw.2 c3
    refine lv_iload_n hx hb dX8_covers_7 rfl (lv_at hl 2 rfl) ?_
    refine lv_if_lt (tgt := 16) hx hb dX8_covers_8 (by decide) (fun c4 => ?_) (fun c4 => ?_)
    · have hw := hw.1 c4
      refine lv_bipush (v := (-2 : Int32)) hx hb dX8_covers_16 (by decide) ?_
      exact g_iret hx hb hr hlocks hw hP hS dX8_covers_18
    · have hw := hw.2 c4
      refine lv_iload_n hx hb dX8_covers_11 rfl (lv_at hl 2 rfl) ?_
      refine lv_iconst (v := (4 : Int32)) hx hb dX8_covers_12 (by decide) ?_
      refine lv_icmp_le (tgt := 19) hx hb dX8_covers_13 (by decide) (fun c5 => ?_) (fun c5 => ?_)
      · have hw := hw.1 c5
        refine lv_aload_n hx hb dX8_covers_19 rfl (lv_at hl 0 rfl) ?_
        refine g_get (v := .ref (ad 14 0)) hx hb hts hown hK hP (hLx.h (f := 0) (by decide)) (gC0 _ _ _ _) gcl8 iX8_covers_X8 5 (by decide) mX8_covers_1 rfl rfl dX8_covers_20 ?_
        refine lv_aload_n hx hb dX8_covers_23 rfl (lv_at hl 0 rfl) ?_
        refine g_get (v := .ref (ad 1 0)) hx hb hts hown hK hP (hLx.h (f := 0) (by decide)) (gC0 _ _ _ _) gcl8 iX8_covers_X8 0 (by decide) mX8_covers_2 rfl rfl dX8_covers_24 ?_
        refine lv_iload_n hx hb dX8_covers_27 rfl (lv_at hl 1 rfl) ?_
        refine g_Vv (As := [.ref (ad 1 0), .int a1]) (rest := []) S hK hN hP hS (qX3_choose l D E ad L A hF hLx M1 0 a1 (by decide) _ hw) (cwV 2 hts gX8_covers_X3_choose rfl rfl rfl eX3_choose ⟨Nat.le_of_ble_eq_true rfl, Nat.le_of_ble_eq_true rfl⟩) (hLx.h (f := 14) (by decide)) (gC14 _ _ _ _) gcl3 rfl rfl rfl hl.1 (Nat.le_of_ble_eq_true rfl) ⟨Nat.zero_le _, Nat.zero_le _⟩ dX8_covers_28 (fun M6 H locs hw hP hS => ?_)
        refine lv_iload_n hx hb dX8_covers_31 rfl (lv_at hl 2 rfl) ?_
        by_cases c7 : a2 = (0 : Int32)
        · have hw := hw.1 c7
          refine g_swK (tgt := 64) hx hb dX8_covers_32 0 c7 (by decide) (by decide) rfl (by decide) ?_
          refine lv_aload_n hx hb dX8_covers_64 rfl (lv_at hl 0 rfl) ?_
          refine g_get (v := .ref (ad 14 0)) hx hb hts hown hK hP (hLx.h (f := 0) (by decide)) (gC0 _ _ _ _) gcl8 iX8_covers_X8 5 (by decide) mX8_covers_1 rfl rfl dX8_covers_65 ?_
          refine g_getN (v := .int (M6 14 0 4)) hx hb hts hown hK hN hP (hLx.h (f := 14) (by decide)) (gC14 _ _ _ _) gcl3 iX8_covers_X3 4 (by decide) 31 rfl rfl rfl dX8_covers_68 ?_
          exact g_iret hx hb hr hlocks hw hP hS dX8_covers_71
        · 
          by_cases c8 : a2 = (1 : Int32)
          · have hw := hw.2.1 c8
            refine g_swK (tgt := 72) hx hb dX8_covers_32 1 c8 (by decide) (by decide) rfl (by decide) ?_
            refine lv_aload_n hx hb dX8_covers_72 rfl (lv_at hl 0 rfl) ?_
            refine g_get (v := .ref (ad 14 0)) hx hb hts hown hK hP (hLx.h (f := 0) (by decide)) (gC0 _ _ _ _) gcl8 iX8_covers_X8 5 (by decide) mX8_covers_1 rfl rfl dX8_covers_73 ?_
            refine lv_iconst (v := (0 : Int32)) hx hb dX8_covers_76 (by decide) ?_
            refine lv_bipush (v := (26 : Int32)) hx hb dX8_covers_77 (by decide) ?_
            refine g_Vi (As := [.int (0 : Int32), .int (26 : Int32)]) (rest := []) S hK hN hP hS (qX3_coveredFrom l D E ad L A hF hLx M6 (0 : Int32) (26 : Int32)  _ hw) (cwV 2 hts gX8_covers_X3_coveredFrom rfl rfl rfl eX3_coveredFrom ⟨Nat.le_of_ble_eq_true rfl, Nat.le_of_ble_eq_true rfl⟩) (hLx.h (f := 14) (by decide)) (gC14 _ _ _ _) gcl3 rfl rfl rfl hl.1 (Nat.le_of_ble_eq_true rfl) ⟨Nat.zero_le _, Nat.zero_le _⟩ dX8_covers_79 (fun r10 M9 H locs hw hP hS => ?_)
            exact g_iret hx hb hr hlocks hw hP hS dX8_covers_82
          · 
            by_cases c11 : a2 = (2 : Int32)
            · have hw := hw.2.2.1 c11
              refine g_swK (tgt := 83) hx hb dX8_covers_32 2 c11 (by decide) (by decide) rfl (by decide) ?_
              refine lv_aload_n hx hb dX8_covers_83 rfl (lv_at hl 0 rfl) ?_
              refine g_get (v := .ref (ad 14 0)) hx hb hts hown hK hP (hLx.h (f := 0) (by decide)) (gC0 _ _ _ _) gcl8 iX8_covers_X8 5 (by decide) mX8_covers_1 rfl rfl dX8_covers_84 ?_
              refine lv_bipush (v := (26 : Int32)) hx hb dX8_covers_87 (by decide) ?_
              refine lv_sipush (v := (702 : Int32)) hx hb dX8_covers_89 (by decide) ?_
              refine g_Vi (As := [.int (26 : Int32), .int (702 : Int32)]) (rest := []) S hK hN hP hS (qX3_coveredFrom l D E ad L A hF hLx M6 (26 : Int32) (702 : Int32)  _ hw) (cwV 2 hts gX8_covers_X3_coveredFrom rfl rfl rfl eX3_coveredFrom ⟨Nat.le_of_ble_eq_true rfl, Nat.le_of_ble_eq_true rfl⟩) (hLx.h (f := 14) (by decide)) (gC14 _ _ _ _) gcl3 rfl rfl rfl hl.1 (Nat.le_of_ble_eq_true rfl) ⟨Nat.zero_le _, Nat.zero_le _⟩ dX8_covers_92 (fun r13 M12 H locs hw hP hS => ?_)
              exact g_iret hx hb hr hlocks hw hP hS dX8_covers_95
            · 
              by_cases c14 : a2 = (3 : Int32)
              · have hw := hw.2.2.2.1 c14
                refine g_swK (tgt := 96) hx hb dX8_covers_32 3 c14 (by decide) (by decide) rfl (by decide) ?_
                refine lv_aload_n hx hb dX8_covers_96 rfl (lv_at hl 0 rfl) ?_
                refine g_get (v := .ref (ad 14 0)) hx hb hts hown hK hP (hLx.h (f := 0) (by decide)) (gC0 _ _ _ _) gcl8 iX8_covers_X8 5 (by decide) mX8_covers_1 rfl rfl dX8_covers_97 ?_
                refine lv_aload_n hx hb dX8_covers_100 rfl (lv_at hl 0 rfl) ?_
                refine g_get (v := .ref (ad 1 0)) hx hb hts hown hK hP (hLx.h (f := 0) (by decide)) (gC0 _ _ _ _) gcl8 iX8_covers_X8 0 (by decide) mX8_covers_2 rfl rfl dX8_covers_101 ?_
                refine g_getN (v := .ref (ad 2 0)) hx hb hts hown hK hN hP (hLx.h (f := 1) (by decide)) (gC1 _ _ _ _) gcl4 iX8_covers_X4 0 (by decide) 15 rfl rfl rfl dX8_covers_104 ?_
                refine g_Vi (As := [.ref (ad 2 0)]) (rest := []) S hK hN hP hS (qX3_needCovered l D E ad L A hF hLx M6 0 (by decide) _ hw) (cwV 1 hts gX8_covers_X3_needCovered rfl rfl rfl eX3_needCovered ⟨Nat.le_of_ble_eq_true rfl, Nat.le_of_ble_eq_true rfl⟩) (hLx.h (f := 14) (by decide)) (gC14 _ _ _ _) gcl3 rfl rfl rfl hl.1 (Nat.le_of_ble_eq_true rfl) ⟨Nat.zero_le _, Nat.zero_le _⟩ dX8_covers_107 (fun r16 M15 H locs hw hP hS => ?_)
                exact g_iret hx hb hr hlocks hw hP hS dX8_covers_110
              · have hw := hw.2.2.2.2 c7 c8 c11 c14
                refine lv_tableOut (tgt := 111) hx hb dX8_covers_32 (by have z0 := g_ne (i := 0) (by decide) c7; have z1 := g_ne (i := 1) (by decide) c8; have z2 := g_ne (i := 2) (by decide) c11; have z3 := g_ne (i := 3) (by decide) c14; omega) (by decide) ?_
                refine lv_aload_n hx hb dX8_covers_111 rfl (lv_at hl 0 rfl) ?_
                refine g_get (v := .ref (ad 14 0)) hx hb hts hown hK hP (hLx.h (f := 0) (by decide)) (gC0 _ _ _ _) gcl8 iX8_covers_X8 5 (by decide) mX8_covers_1 rfl rfl dX8_covers_112 ?_
                refine g_Vi (As := []) (rest := []) S hK hN hP hS (qX3_sumOfGains l D E ad L A hF hLx M6  _ hw) (cwV 0 hts gX8_covers_X3_sumOfGains rfl rfl rfl eX3_sumOfGains ⟨Nat.le_of_ble_eq_true rfl, Nat.le_of_ble_eq_true rfl⟩) (hLx.h (f := 14) (by decide)) (gC14 _ _ _ _) gcl3 rfl rfl rfl hl.1 (Nat.le_of_ble_eq_true rfl) ⟨Nat.zero_le _, Nat.zero_le _⟩ dX8_covers_115 (fun r18 M17 H locs hw hP hS => ?_)
                exact g_iret hx hb hr hlocks hw hP hS dX8_covers_118
      · have hw := hw.2 c5
        refine lv_bipush (v := (-2 : Int32)) hx hb dX8_covers_16 (by decide) ?_
        exact g_iret hx hb hr hlocks hw hP hS dX8_covers_18
