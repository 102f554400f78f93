/-! ===== LAYER 1: contracts, walked (printed by wip/whole/gen.py) ===== -/
abbrev rmX9_keep : Room := { frames := 1, cells := 0, slots := 0, locals := 22 }
theorem eX9_keep : yX9_keep.cls = RX9 ∧ yX9_keep.cls ≠ "java/lang/invoke/MethodHandle" ∧ yX9_keep.cls ≠ "java/lang/invoke/VarHandle" ∧ (parseMethodDescriptor yX9_keep.desc).map (fun d => d.parameters.length) = some 0 := by decide +kernel
theorem iX9_keep_X9 : ∀ w ∈ wsX90, w ∈ wsX9_keep := fun _ h => List.mem_cons_of_mem _ (List.mem_append_right _ (h))
theorem mX9_keep_1 : Cond.fieldLink RX9 7 "PracticeSheetsModel" "all" "[I" ∈ wsX9_keep := List.mem_of_getElem? (i := 1) rfl
theorem mX9_keep_2 : Cond.fieldLink RX9 22 "PracticeSheetsModel" "snapshot" "[I" ∈ wsX9_keep := List.mem_of_getElem? (i := 2) rfl
theorem mX9_keep_3 : Cond.fieldLink RX9 166 "PracticeSheetsModel" "isTaken" "I" ∈ wsX9_keep := List.mem_of_getElem? (i := 3) rfl
set_option maxHeartbeats 4000000 in
set_option maxRecDepth 100000 in
theorem qX9_keep (l : Launch) (D : va_G) (E : Nat → ClassId) (ad : Nat → Nat → Nat) (L : List (Nat × Nat)) (A : Nat → Prop) (hF : gF E ad L A) (hLm : gLm L) (M0 : gW)  (K : Int32 → gW → Prop) (hw : wX9_keep M0 K) : Met l yX9_keep wsX9_keep rmX9_keep (va_Pc [.ref (ad 21 0)] (gPre D E ad L M0)) (gQi D E ad L A K) 0 0 A := by
  refine Met.ofW (cc := cX9_keep) (maxL := 1) (ret := (some .int)) (by decide) rfl ?_
  intro p e s m args below meth c s₁ B hml hv
  obtain ⟨rfl, hP, hK, hN⟩ := hv
  have hx := B.exec
  have hb := B.bytes
  have hr := B.returns
  have hts := atoms_spec (ws := wsX9_keep) B.pre
  have hown : s.vm.findClass RX9 = some m.cls := findClass_of_methodNamed B.named
  have hlocks := B.notSynchronized
  have S : CallFix p m c cX9_keep 1 s ([.ref (ad 21 0)] : List Value).toArray wsX9_keep RX9 := ⟨hx, hb, hml, hown, hts⟩
  have hS : va_S A s.heap s.heap [] := va_S.rf
  have hl := lv_entry ([.ref (ad 21 0)]) (n := 1) (Nat.le_of_ble_eq_true rfl)
  rw [lg_entry_eq]
  generalize (lg_sl ([.ref (ad 21 0)]) ++ List.replicate (1 - (lg_sl ([.ref (ad 21 0)])).length) Slot.unset).toArray = ls at hl ⊢
  have hl : lv_has ls 1 [(0, .ref (ad 21 0))] := hl
  refine lv_aload_n hx hb dX9_keep_0 rfl (lv_at hl 0 rfl) ?_
  refine g_get (v := .ref (ad 22 0)) hx hb hts hown hK hP (hLm.h (f := 21) (by decide)) (gC21 _ _ _ _) gcl9 iX9_keep_X9 0 (by decide) mX9_keep_1 rfl rfl dX9_keep_1 ?_
  refine lv_aload_n hx hb dX9_keep_4 rfl (lv_at hl 0 rfl) ?_
  refine g_get (v := .ref (ad 22 4)) hx hb hts hown hK hP (hLm.h (f := 21) (by decide)) (gC21 _ _ _ _) gcl9 iX9_keep_X9 5 (by decide) mX9_keep_2 rfl rfl dX9_keep_5 ?_
  refine g_Sv (As := [.ref (ad 22 0), .ref (ad 22 4)]) (rest := []) S hK hN hP hS (qX9_copy l D E ad L A hF hLm M0 0 4 (by decide) (by decide) _ hw) (va_cwS 2 hts gX9_keep_X9_copy rfl rfl rfl eX9_copy.2 ⟨Nat.le_of_ble_eq_true rfl, Nat.le_of_ble_eq_true rfl⟩) rfl rfl hl.1 (Nat.le_of_ble_eq_true rfl) ⟨Nat.zero_le _, Nat.zero_le _⟩ dX9_keep_8 (fun M1 H locs hw hP hS => ?_)
  refine lv_aload_n hx hb dX9_keep_11 rfl (lv_at hl 0 rfl) ?_
  refine lv_iconst (v := (1 : Int32)) hx hb dX9_keep_12 (by decide) ?_
  refine g_put hx hb hF hts hown hK hP hS (hLm.h (f := 21) (by decide)) (gC21 _ _ _ _) gcl9 iX9_keep_X9 tyX9 tyX9_ok nmX9 6 (by decide) mX9_keep_3 rfl rfl rfl rfl (Nat.lt_of_lt_of_eq (by decide : 6 < 19) rfl) rfl dX9_keep_13 (fun M2 e3 H locs hP hS => ?_)
  have hw := hw M2 e3
  refine lv_aload_n hx hb dX9_keep_16 rfl (lv_at hl 0 rfl) ?_
  refine g_get (v := .ref (ad 22 0)) hx hb hts hown hK hP (hLm.h (f := 21) (by decide)) (gC21 _ _ _ _) gcl9 iX9_keep_X9 0 (by decide) mX9_keep_1 rfl rfl dX9_keep_17 ?_
  refine lv_iconst (v := (5 : Int32)) hx hb dX9_keep_20 (by decide) ?_
  have hb4 := hw.1
  have hw := hw.2
  refine g_iald (n := 1730) hx hb hK hP (hLm.h (f := 22) (by decide)) rfl hb4 dX9_keep_21 ?_
  exact g_iret hx hb hr hlocks hw hP hS dX9_keep_22
abbrev rmX9_restore : Room := { frames := 2, cells := 0, slots := 0, locals := 42 }
theorem eX9_restore : yX9_restore.cls = RX9 ∧ yX9_restore.cls ≠ "java/lang/invoke/MethodHandle" ∧ yX9_restore.cls ≠ "java/lang/invoke/VarHandle" ∧ (parseMethodDescriptor yX9_restore.desc).map (fun d => d.parameters.length) = some 0 := by decide +kernel
theorem iX9_restore_X9 : ∀ w ∈ wsX90, w ∈ wsX9_restore := fun _ h => List.mem_cons_of_mem _ (List.mem_append_right _ (h))
theorem mX9_restore_1 : Cond.fieldLink RX9 166 "PracticeSheetsModel" "isTaken" "I" ∈ wsX9_restore := List.mem_of_getElem? (i := 1) rfl
theorem mX9_restore_2 : Cond.fieldLink RX9 22 "PracticeSheetsModel" "snapshot" "[I" ∈ wsX9_restore := List.mem_of_getElem? (i := 2) rfl
theorem mX9_restore_3 : Cond.fieldLink RX9 7 "PracticeSheetsModel" "all" "[I" ∈ wsX9_restore := List.mem_of_getElem? (i := 3) rfl
set_option maxHeartbeats 4000000 in
set_option maxRecDepth 100000 in
theorem qX9_restore (l : Launch) (D : va_G) (E : Nat → ClassId) (ad : Nat → Nat → Nat) (L : List (Nat × Nat)) (A : Nat → Prop) (hF : gF E ad L A) (hLm : gLm L) (M0 : gW)  (K : Int32 → gW → Prop) (hw : wX9_restore M0 K) : Met l yX9_restore wsX9_restore rmX9_restore (va_Pc [.ref (ad 21 0)] (gPre D E ad L M0)) (gQi D E ad L A K) 0 0 A := by
  refine Met.ofW (cc := cX9_restore) (maxL := 1) (ret := (some .int)) (by decide) rfl ?_
  intro p e s m args below meth c s₁ B hml hv
  obtain ⟨rfl, hP, hK, hN⟩ := hv
  have hx := B.exec
  have hb := B.bytes
  have hr := B.returns
  have hts := atoms_spec (ws := wsX9_restore) B.pre
  have hown : s.vm.findClass RX9 = some m.cls := findClass_of_methodNamed B.named
  have hlocks := B.notSynchronized
  have S : CallFix p m c cX9_restore 1 s ([.ref (ad 21 0)] : List Value).toArray wsX9_restore RX9 := ⟨hx, hb, hml, hown, hts⟩
  have hS : va_S A s.heap s.heap [] := va_S.rf
  have hl := lv_entry ([.ref (ad 21 0)]) (n := 1) (Nat.le_of_ble_eq_true rfl)
  rw [lg_entry_eq]
  generalize (lg_sl ([.ref (ad 21 0)]) ++ List.replicate (1 - (lg_sl ([.ref (ad 21 0)])).length) Slot.unset).toArray = ls at hl ⊢
  have hl : lv_has ls 1 [(0, .ref (ad 21 0))] := hl
  refine lv_aload_n hx hb dX9_restore_0 rfl (lv_at hl 0 rfl) ?_
  refine g_get (v := .int (M0 21 0 6)) hx hb hts hown hK hP (hLm.h (f := 21) (by decide)) (gC21 _ _ _ _) gcl9 iX9_restore_X9 6 (by decide) mX9_restore_1 rfl rfl dX9_restore_1 ?_
  refine lv_if_ne (tgt := 10) hx hb dX9_restore_4 (by decide) (fun c1 => ?_) (fun c1 => ?_)
  · have hw := hw.2 c1
    refine lv_aload_n hx hb dX9_restore_10 rfl (lv_at hl 0 rfl) ?_
    refine g_Vv (As := []) (rest := []) S hK hN hP hS (qX9_remember l D E ad L A hF hLm M0  _ hw) (cwV 0 hts gX9_restore_X9_remember rfl rfl rfl eX9_remember ⟨Nat.le_of_ble_eq_true rfl, Nat.le_of_ble_eq_true rfl⟩) (hLm.h (f := 21) (by decide)) (gC21 _ _ _ _) gcl9 rfl rfl rfl hl.1 (Nat.le_of_ble_eq_true rfl) ⟨Nat.zero_le _, Nat.zero_le _⟩ dX9_restore_11 (fun M2 H locs hw hP hS => ?_)
    refine lv_aload_n hx hb dX9_restore_14 rfl (lv_at hl 0 rfl) ?_
    refine g_get (v := .ref (ad 22 4)) hx hb hts hown hK hP (hLm.h (f := 21) (by decide)) (gC21 _ _ _ _) gcl9 iX9_restore_X9 5 (by decide) mX9_restore_2 rfl rfl dX9_restore_15 ?_
    refine lv_aload_n hx hb dX9_restore_18 rfl (lv_at hl 0 rfl) ?_
    refine g_get (v := .ref (ad 22 0)) hx hb hts hown hK hP (hLm.h (f := 21) (by decide)) (gC21 _ _ _ _) gcl9 iX9_restore_X9 0 (by decide) mX9_restore_3 rfl rfl dX9_restore_19 ?_
    refine g_Sv (As := [.ref (ad 22 4), .ref (ad 22 0)]) (rest := []) S hK hN hP hS (qX9_copy l D E ad L A hF hLm M2 4 0 (by decide) (by decide) _ hw) (va_cwS 2 hts gX9_restore_X9_copy rfl rfl rfl eX9_copy.2 ⟨Nat.le_of_ble_eq_true rfl, Nat.le_of_ble_eq_true rfl⟩) rfl rfl hl.1 (Nat.le_of_ble_eq_true rfl) ⟨Nat.zero_le _, Nat.zero_le _⟩ dX9_restore_22 (fun M3 H locs hw hP hS => ?_)
    refine lv_aload_n hx hb dX9_restore_25 rfl (lv_at hl 0 rfl) ?_
    refine lv_aload_n hx hb dX9_restore_26 rfl (lv_at hl 0 rfl) ?_
    refine g_get (v := .ref (ad 22 0)) hx hb hts hown hK hP (hLm.h (f := 21) (by decide)) (gC21 _ _ _ _) gcl9 iX9_restore_X9 0 (by decide) mX9_restore_3 rfl rfl dX9_restore_27 ?_
    refine lv_iconst (v := (5 : Int32)) hx hb dX9_restore_30 (by decide) ?_
    have hb4 := hw.1
    have hw := hw.2
    refine g_iald (n := 1730) hx hb hK hP (hLm.h (f := 22) (by decide)) rfl hb4 dX9_restore_31 ?_
    refine g_Vi (As := [.int (M3 22 0 (5 : Int32).toNatClampNeg)]) (rest := []) S hK hN hP hS (qX9_acted l D E ad L A hF hLm M3 (M3 22 0 (5 : Int32).toNatClampNeg)  _ hw) (cwV 1 hts gX9_restore_X9_acted rfl rfl rfl eX9_acted ⟨Nat.le_of_ble_eq_true rfl, Nat.le_of_ble_eq_true rfl⟩) (hLm.h (f := 21) (by decide)) (gC21 _ _ _ _) gcl9 rfl rfl rfl hl.1 (Nat.le_of_ble_eq_true rfl) ⟨Nat.zero_le _, Nat.zero_le _⟩ dX9_restore_32 (fun r6 M5 H locs hw hP hS => ?_)
    exact g_iret hx hb hr hlocks hw hP hS dX9_restore_35
  · have hw := hw.1 c1
    refine lv_bipush (v := (-5 : Int32)) hx hb dX9_restore_7 (by decide) ?_
    exact g_iret hx hb hr hlocks hw hP hS dX9_restore_9
abbrev rmX9_ofPart : Room := { frames := 4, cells := 0, slots := 0, locals := 92 }
theorem eX9_ofPart : yX9_ofPart.cls = RX9 ∧ yX9_ofPart.cls ≠ "java/lang/invoke/MethodHandle" ∧ yX9_ofPart.cls ≠ "java/lang/invoke/VarHandle" ∧ (parseMethodDescriptor yX9_ofPart.desc).map (fun d => d.parameters.length) = some 2 := by decide +kernel
theorem iX9_ofPart_X9 : ∀ w ∈ wsX90, w ∈ wsX9_ofPart := fun _ h => List.mem_cons_of_mem _ (List.mem_append_right _ (h))
theorem mX9_ofPart_1 : Cond.fieldLink RX9 7 "PracticeSheetsModel" "all" "[I" ∈ wsX9_ofPart := List.mem_of_getElem? (i := 1) rfl
set_option maxHeartbeats 4000000 in
set_option maxRecDepth 100000 in
theorem qX9_ofPart (l : Launch) (D : va_G) (E : Nat → ClassId) (ad : Nat → Nat → Nat) (L : List (Nat × Nat)) (A : Nat → Prop) (hF : gF E ad L A) (hLm : gLm L) (M0 : gW) (a1 : Int32) (a2 : Int32)  (K : Int32 → gW → Prop) (hw : wX9_ofPart M0 a1 a2 K) : Met l yX9_ofPart wsX9_ofPart rmX9_ofPart (va_Pc [.ref (ad 21 0), .int a1, .int a2] (gPre D E ad L M0)) (gQi D E ad L A K) 0 0 A := by
  refine Met.ofW (cc := cX9_ofPart) (maxL := 3) (ret := (some .int)) (by decide) rfl ?_
  intro p e s m args below meth c s₁ B hml hv
  obtain ⟨rfl, hP, hK, hN⟩ := hv
  have hx := B.exec
  have hb := B.bytes
  have hr := B.returns
  have hts := atoms_spec (ws := wsX9_ofPart) B.pre
  have hown : s.vm.findClass RX9 = some m.cls := findClass_of_methodNamed B.named
  have hlocks := B.notSynchronized
  have S : CallFix p m c cX9_ofPart 3 s ([.ref (ad 21 0), .int a1, .int a2] : List Value).toArray wsX9_ofPart RX9 := ⟨hx, hb, hml, hown, hts⟩
  have hS : va_S A s.heap s.heap [] := va_S.rf
  have hl := lv_entry ([.ref (ad 21 0), .int a1, .int a2]) (n := 3) (Nat.le_of_ble_eq_true rfl)
  rw [lg_entry_eq]
  generalize (lg_sl ([.ref (ad 21 0), .int a1, .int a2]) ++ List.replicate (3 - (lg_sl ([.ref (ad 21 0), .int a1, .int a2])).length) Slot.unset).toArray = ls at hl ⊢
  have hl : lv_has ls 3 [(0, .ref (ad 21 0)), (1, .int a1), (2, .int a2)] := hl
  refine lv_iload_n hx hb dX9_ofPart_0 rfl (lv_at hl 2 rfl) ?_
  by_cases c1 : a2 = (0 : Int32)
  · have hw := hw.1 c1
    refine g_swK (tgt := 32) hx hb dX9_ofPart_1 0 c1 (by decide) (by decide) rfl (by decide) ?_
    refine lv_aload_n hx hb dX9_ofPart_32 rfl (lv_at hl 0 rfl) ?_
    refine g_get (v := .ref (ad 22 0)) hx hb hts hown hK hP (hLm.h (f := 21) (by decide)) (gC21 _ _ _ _) gcl9 iX9_ofPart_X9 0 (by decide) mX9_ofPart_1 rfl rfl dX9_ofPart_33 ?_
    refine lv_bipush (v := (6 : Int32)) hx hb dX9_ofPart_36 (by decide) ?_
    refine lv_iload_n hx hb dX9_ofPart_38 rfl (lv_at hl 1 rfl) ?_
    refine lv_iadd hx hb dX9_ofPart_39 ?_
    have hb2 := hw.1
    have hw := hw.2
    refine g_iald (n := 1730) hx hb hK hP (hLm.h (f := 22) (by decide)) rfl hb2 dX9_ofPart_40 ?_
    exact g_iret hx hb hr hlocks hw hP hS dX9_ofPart_41
  · 
    by_cases c3 : a2 = (1 : Int32)
    · have hw := hw.2.1 c3
      refine g_swK (tgt := 42) hx hb dX9_ofPart_1 1 c3 (by decide) (by decide) rfl (by decide) ?_
      refine lv_aload_n hx hb dX9_ofPart_42 rfl (lv_at hl 0 rfl) ?_
      refine g_get (v := .ref (ad 22 0)) hx hb hts hown hK hP (hLm.h (f := 21) (by decide)) (gC21 _ _ _ _) gcl9 iX9_ofPart_X9 0 (by decide) mX9_ofPart_1 rfl rfl dX9_ofPart_43 ?_
      refine lv_sipush (v := (708 : Int32)) hx hb dX9_ofPart_46 (by decide) ?_
      refine lv_iload_n hx hb dX9_ofPart_49 rfl (lv_at hl 1 rfl) ?_
      refine lv_iadd hx hb dX9_ofPart_50 ?_
      have hb4 := hw.1
      have hw := hw.2
      refine g_iald (n := 1730) hx hb hK hP (hLm.h (f := 22) (by decide)) rfl hb4 dX9_ofPart_51 ?_
      exact g_iret hx hb hr hlocks hw hP hS dX9_ofPart_52
    · 
      by_cases c5 : a2 = (2 : Int32)
      · have hw := hw.2.2.1 c5
        refine g_swK (tgt := 53) hx hb dX9_ofPart_1 2 c5 (by decide) (by decide) rfl (by decide) ?_
        refine lv_aload_n hx hb dX9_ofPart_53 rfl (lv_at hl 0 rfl) ?_
        refine lv_iload_n hx hb dX9_ofPart_54 rfl (lv_at hl 1 rfl) ?_
        refine g_Vi (As := [.int a1]) (rest := []) S hK hN hP hS (qX9_needOf l D E ad L A hF hLm M0 a1  _ hw) (cwV 1 hts gX9_ofPart_X9_needOf rfl rfl rfl eX9_needOf ⟨Nat.le_of_ble_eq_true rfl, Nat.le_of_ble_eq_true rfl⟩) (hLm.h (f := 21) (by decide)) (gC21 _ _ _ _) gcl9 rfl rfl rfl hl.1 (Nat.le_of_ble_eq_true rfl) ⟨Nat.zero_le _, Nat.zero_le _⟩ dX9_ofPart_55 (fun r7 M6 H locs hw hP hS => ?_)
        exact g_iret hx hb hr hlocks hw hP hS dX9_ofPart_58
      · 
        by_cases c8 : a2 = (3 : Int32)
        · have hw := hw.2.2.2.1 c8
          refine g_swK (tgt := 59) hx hb dX9_ofPart_1 3 c8 (by decide) (by decide) rfl (by decide) ?_
          refine lv_aload_n hx hb dX9_ofPart_59 rfl (lv_at hl 0 rfl) ?_
          refine lv_iload_n hx hb dX9_ofPart_60 rfl (lv_at hl 1 rfl) ?_
          refine g_Vi (As := [.int a1]) (rest := []) S hK hN hP hS (qX9_wordsWith l D E ad L A hF hLm M0 a1  _ hw) (cwV 1 hts gX9_ofPart_X9_wordsWith rfl rfl rfl eX9_wordsWith ⟨Nat.le_of_ble_eq_true rfl, Nat.le_of_ble_eq_true rfl⟩) (hLm.h (f := 21) (by decide)) (gC21 _ _ _ _) gcl9 rfl rfl rfl hl.1 (Nat.le_of_ble_eq_true rfl) ⟨Nat.zero_le _, Nat.zero_le _⟩ dX9_ofPart_61 (fun r10 M9 H locs hw hP hS => ?_)
          exact g_iret hx hb hr hlocks hw hP hS dX9_ofPart_64
        · have hw := hw.2.2.2.2 c1 c3 c5 c8
          refine lv_tableOut (tgt := 65) hx hb dX9_ofPart_1 (by have z0 := g_ne (i := 0) (by decide) c1; have z1 := g_ne (i := 1) (by decide) c3; have z2 := g_ne (i := 2) (by decide) c5; have z3 := g_ne (i := 3) (by decide) c8; omega) (by decide) ?_
          refine lv_bipush (v := (-2 : Int32)) hx hb dX9_ofPart_65 (by decide) ?_
          exact g_iret hx hb hr hlocks hw hP hS dX9_ofPart_67
abbrev rmX9_letter : Room := { frames := 5, cells := 0, slots := 0, locals := 114 }
theorem eX9_letter : yX9_letter.cls = RX9 ∧ yX9_letter.cls ≠ "java/lang/invoke/MethodHandle" ∧ yX9_letter.cls ≠ "java/lang/invoke/VarHandle" ∧ (parseMethodDescriptor yX9_letter.desc).map (fun d => d.parameters.length) = some 2 := by decide +kernel
theorem mX9_letter_1 : Cond.constantLong RX9 116 (97) ∈ wsX9_letter := List.mem_of_getElem? (i := 1) rfl
theorem mX9_letter_2 : Cond.constantLong RX9 118 (122) ∈ wsX9_letter := List.mem_of_getElem? (i := 2) rfl
set_option maxHeartbeats 4000000 in
set_option maxRecDepth 100000 in
theorem qX9_letter (l : Launch) (D : va_G) (E : Nat → ClassId) (ad : Nat → Nat → Nat) (L : List (Nat × Nat)) (A : Nat → Prop) (hF : gF E ad L A) (hLm : gLm L) (M0 : gW) (a1 : Int32) (a2 : Int32)  (K : Int32 → gW → Prop) (hw : wX9_letter M0 a1 a2 K) : Met l yX9_letter wsX9_letter rmX9_letter (va_Pc [.ref (ad 21 0), .int a1, .int a2] (gPre D E ad L M0)) (gQi D E ad L A K) 0 0 A := by
  refine Met.ofW (cc := cX9_letter) (maxL := 3) (ret := (some .int)) (by decide) rfl ?_
  intro p e s m args below meth c s₁ B hml hv
  obtain ⟨rfl, hP, hK, hN⟩ := hv
  have hx := B.exec
  have hb := B.bytes
  have hr := B.returns
  have hts := atoms_spec (ws := wsX9_letter) B.pre
  have hown : s.vm.findClass RX9 = some m.cls := findClass_of_methodNamed B.named
  have hlocks := B.notSynchronized
  have S : CallFix p m c cX9_letter 3 s ([.ref (ad 21 0), .int a1, .int a2] : List Value).toArray wsX9_letter RX9 := ⟨hx, hb, hml, hown, hts⟩
  have hS : va_S A s.heap s.heap [] := va_S.rf
  have hl := lv_entry ([.ref (ad 21 0), .int a1, .int a2]) (n := 3) (Nat.le_of_ble_eq_true rfl)
  rw [lg_entry_eq]
  generalize (lg_sl ([.ref (ad 21 0), .int a1, .int a2]) ++ List.replicate (3 - (lg_sl ([.ref (ad 21 0), .int a1, .int a2])).length) Slot.unset).toArray = ls at hl ⊢
  have hl : lv_has ls 3 [(0, .ref (ad 21 0)), (1, .int a1), (2, .int a2)] := hl
  refine lv_iload_n hx hb dX9_letter_0 rfl (lv_at hl 1 rfl) ?_
  refine lv_i2l (v := a1.toInt64) hx hb dX9_letter_1 rfl ?_
  refine lv_ldc2 (v := (97 : Int64)) hx hb hown (hts _ mX9_letter_1) dX9_letter_2 ?_
  refine lv_ldc2 (v := (122 : Int64)) hx hb hown (hts _ mX9_letter_2) dX9_letter_5 ?_
  refine g_Si (As := [.long (a1.toInt64), .long (97 : Int64), .long (122 : Int64)]) (rest := []) S hK hN hP hS (qX9_in l D E ad L A hF hLm M0 (a1.toInt64) (97 : Int64) (122 : Int64)  _ hw) (va_cwS 3 hts gX9_letter_X9_in rfl rfl rfl eX9_in.2 ⟨Nat.le_of_ble_eq_true rfl, Nat.le_of_ble_eq_true rfl⟩) rfl rfl hl.1 (Nat.le_of_ble_eq_true rfl) ⟨Nat.zero_le _, Nat.zero_le _⟩ dX9_letter_8 (fun r2 M1 H locs hw hP hS => ?_)
  refine lv_if_eq (tgt := 26) hx hb dX9_letter_11 (by decide) (fun c3 => ?_) (fun c3 => ?_)
  · have hw := hw.1 c3
    refine lv_iconst (v := (-1 : Int32)) hx hb dX9_letter_26 (by decide) ?_
    exact g_iret hx hb hr hlocks hw hP hS dX9_letter_27
  · have hw := hw.2 c3
    refine lv_aload_n hx hb dX9_letter_14 rfl (lv_at hl 0 rfl) ?_
    refine lv_iload_n hx hb dX9_letter_15 rfl (lv_at hl 1 rfl) ?_
    refine lv_bipush (v := (97 : Int32)) hx hb dX9_letter_16 (by decide) ?_
    refine lv_isub hx hb dX9_letter_18 ?_
    refine lv_iload_n hx hb dX9_letter_19 rfl (lv_at hl 2 rfl) ?_
    refine g_Vi (As := [.int (a1 - (97 : Int32)), .int a2]) (rest := []) S hK hN hP hS (qX9_ofPart l D E ad L A hF hLm M1 (a1 - (97 : Int32)) a2  _ hw) (cwV 2 hts gX9_letter_X9_ofPart rfl rfl rfl eX9_ofPart ⟨Nat.le_of_ble_eq_true rfl, Nat.le_of_ble_eq_true rfl⟩) (hLm.h (f := 21) (by decide)) (gC21 _ _ _ _) gcl9 rfl rfl rfl hl.1 (Nat.le_of_ble_eq_true rfl) ⟨Nat.zero_le _, Nat.zero_le _⟩ dX9_letter_20 (fun r5 M4 H locs hw hP hS => ?_)
    refine lv_goto (tgt := 27) hx hb dX9_letter_23 (by decide) ?_
    exact g_iret hx hb hr hlocks hw hP hS dX9_letter_27
abbrev rmX9_join : Room := { frames := 5, cells := 0, slots := 0, locals := 114 }
theorem eX9_join : yX9_join.cls = RX9 ∧ yX9_join.cls ≠ "java/lang/invoke/MethodHandle" ∧ yX9_join.cls ≠ "java/lang/invoke/VarHandle" ∧ (parseMethodDescriptor yX9_join.desc).map (fun d => d.parameters.length) = some 3 := by decide +kernel
theorem mX9_join_1 : Cond.constantLong RX9 116 (97) ∈ wsX9_join := List.mem_of_getElem? (i := 1) rfl
theorem mX9_join_2 : Cond.constantLong RX9 118 (122) ∈ wsX9_join := List.mem_of_getElem? (i := 2) rfl
set_option maxHeartbeats 4000000 in
set_option maxRecDepth 100000 in
theorem qX9_join (l : Launch) (D : va_G) (E : Nat → ClassId) (ad : Nat → Nat → Nat) (L : List (Nat × Nat)) (A : Nat → Prop) (hF : gF E ad L A) (hLm : gLm L) (M0 : gW) (a1 : Int32) (a2 : Int32) (a3 : Int32)  (K : Int32 → gW → Prop) (hw : wX9_join M0 a1 a2 a3 K) : Met l yX9_join wsX9_join rmX9_join (va_Pc [.ref (ad 21 0), .int a1, .int a2, .int a3] (gPre D E ad L M0)) (gQi D E ad L A K) 0 0 A := by
  refine Met.ofW (cc := cX9_join) (maxL := 4) (ret := (some .int)) (by decide) rfl ?_
  intro p e s m args below meth c s₁ B hml hv
  obtain ⟨rfl, hP, hK, hN⟩ := hv
  have hx := B.exec
  have hb := B.bytes
  have hr := B.returns
  have hts := atoms_spec (ws := wsX9_join) B.pre
  have hown : s.vm.findClass RX9 = some m.cls := findClass_of_methodNamed B.named
  have hlocks := B.notSynchronized
  have S : CallFix p m c cX9_join 4 s ([.ref (ad 21 0), .int a1, .int a2, .int a3] : List Value).toArray wsX9_join RX9 := ⟨hx, hb, hml, hown, hts⟩
  have hS : va_S A s.heap s.heap [] := va_S.rf
  have hl := lv_entry ([.ref (ad 21 0), .int a1, .int a2, .int a3]) (n := 4) (Nat.le_of_ble_eq_true rfl)
  rw [lg_entry_eq]
  generalize (lg_sl ([.ref (ad 21 0), .int a1, .int a2, .int a3]) ++ List.replicate (4 - (lg_sl ([.ref (ad 21 0), .int a1, .int a2, .int a3])).length) Slot.unset).toArray = ls at hl ⊢
  have hl : lv_has ls 4 [(0, .ref (ad 21 0)), (1, .int a1), (2, .int a2), (3, .int a3)] := hl
  refine lv_iload_n hx hb dX9_join_0 rfl (lv_at hl 1 rfl) ?_
  refine lv_i2l (v := a1.toInt64) hx hb dX9_join_1 rfl ?_
  refine lv_ldc2 (v := (97 : Int64)) hx hb hown (hts _ mX9_join_1) dX9_join_2 ?_
  refine lv_ldc2 (v := (122 : Int64)) hx hb hown (hts _ mX9_join_2) dX9_join_5 ?_
  refine g_Si (As := [.long (a1.toInt64), .long (97 : Int64), .long (122 : Int64)]) (rest := []) S hK hN hP hS (qX9_in l D E ad L A hF hLm M0 (a1.toInt64) (97 : Int64) (122 : Int64)  _ hw) (va_cwS 3 hts gX9_join_X9_in rfl rfl rfl eX9_in.2 ⟨Nat.le_of_ble_eq_true rfl, Nat.le_of_ble_eq_true rfl⟩) rfl rfl hl.1 (Nat.le_of_ble_eq_true rfl) ⟨Nat.zero_le _, Nat.zero_le _⟩ dX9_join_8 (fun r2 M1 H locs hw hP hS => ?_)
  refine lv_if_eq (tgt := 47) hx hb dX9_join_11 (by decide) (fun c3 => ?_) (fun c3 => ?_)
  · have hw := hw.1 c3
    refine lv_iconst (v := (-1 : Int32)) hx hb dX9_join_47 (by decide) ?_
    exact g_iret hx hb hr hlocks hw hP hS dX9_join_48
  · have hw := hw.2 c3
    refine lv_iload_n hx hb dX9_join_14 rfl (lv_at hl 2 rfl) ?_
    refine lv_i2l (v := a2.toInt64) hx hb dX9_join_15 rfl ?_
    refine lv_ldc2 (v := (97 : Int64)) hx hb hown (hts _ mX9_join_1) dX9_join_16 ?_
    refine lv_ldc2 (v := (122 : Int64)) hx hb hown (hts _ mX9_join_2) dX9_join_19 ?_
    refine g_Si (As := [.long (a2.toInt64), .long (97 : Int64), .long (122 : Int64)]) (rest := []) S hK hN hP hS (qX9_in l D E ad L A hF hLm M1 (a2.toInt64) (97 : Int64) (122 : Int64)  _ hw) (va_cwS 3 hts gX9_join_X9_in rfl rfl rfl eX9_in.2 ⟨Nat.le_of_ble_eq_true rfl, Nat.le_of_ble_eq_true rfl⟩) rfl rfl hl.1 (Nat.le_of_ble_eq_true rfl) ⟨Nat.zero_le _, Nat.zero_le _⟩ dX9_join_22 (fun r5 M4 H locs hw hP hS => ?_)
    refine lv_if_eq (tgt := 47) hx hb dX9_join_25 (by decide) (fun c6 => ?_) (fun c6 => ?_)
    · have hw := hw.1 c6
      refine lv_iconst (v := (-1 : Int32)) hx hb dX9_join_47 (by decide) ?_
      exact g_iret hx hb hr hlocks hw hP hS dX9_join_48
    · have hw := hw.2 c6
      refine lv_aload_n hx hb dX9_join_28 rfl (lv_at hl 0 rfl) ?_
      refine lv_iload_n hx hb dX9_join_29 rfl (lv_at hl 1 rfl) ?_
      refine lv_bipush (v := (97 : Int32)) hx hb dX9_join_30 (by decide) ?_
      refine lv_isub hx hb dX9_join_32 ?_
      refine lv_iload_n hx hb dX9_join_33 rfl (lv_at hl 2 rfl) ?_
      refine lv_bipush (v := (97 : Int32)) hx hb dX9_join_34 (by decide) ?_
      refine lv_isub hx hb dX9_join_36 ?_
      refine g_Si (As := [.int (a1 - (97 : Int32)), .int (a2 - (97 : Int32))]) (rest := [.ref (ad 21 0)]) S hK hN hP hS (qX9_joinOf l D E ad L A hF hLm M4 (a1 - (97 : Int32)) (a2 - (97 : Int32))  _ hw) (va_cwS 2 hts gX9_join_X9_joinOf rfl rfl rfl eX9_joinOf.2 ⟨Nat.le_of_ble_eq_true rfl, Nat.le_of_ble_eq_true rfl⟩) rfl rfl hl.1 (Nat.le_of_ble_eq_true rfl) ⟨Nat.zero_le _, Nat.zero_le _⟩ dX9_join_37 (fun r8 M7 H locs hw hP hS => ?_)
      refine lv_iload_n hx hb dX9_join_40 rfl (lv_at hl 3 rfl) ?_
      refine g_Vi (As := [.int r8, .int a3]) (rest := []) S hK hN hP hS (qX9_ofPart l D E ad L A hF hLm M7 r8 a3  _ hw) (cwV 2 hts gX9_join_X9_ofPart rfl rfl rfl eX9_ofPart ⟨Nat.le_of_ble_eq_true rfl, Nat.le_of_ble_eq_true rfl⟩) (hLm.h (f := 21) (by decide)) (gC21 _ _ _ _) gcl9 rfl rfl rfl hl.1 (Nat.le_of_ble_eq_true rfl) ⟨Nat.zero_le _, Nat.zero_le _⟩ dX9_join_41 (fun r10 M9 H locs hw hP hS => ?_)
      refine lv_goto (tgt := 48) hx hb dX9_join_44 (by decide) ?_
      exact g_iret hx hb hr hlocks hw hP hS dX9_join_48
abbrev rmX9_needOfWord : Room := { frames := 2, cells := 0, slots := 0, locals := 45 }
theorem eX9_needOfWord : yX9_needOfWord.cls = RX9 ∧ yX9_needOfWord.cls ≠ "java/lang/invoke/MethodHandle" ∧ yX9_needOfWord.cls ≠ "java/lang/invoke/VarHandle" ∧ (parseMethodDescriptor yX9_needOfWord.desc).map (fun d => d.parameters.length) = some 1 := by decide +kernel
theorem iX9_needOfWord_X9 : ∀ w ∈ wsX90, w ∈ wsX9_needOfWord := fun _ h => List.mem_cons_of_mem _ (List.mem_append_right _ (h))
theorem mX9_needOfWord_1 : Cond.fieldLink RX9 61 "PracticeSheetsModel" "parts" "I" ∈ wsX9_needOfWord := List.mem_of_getElem? (i := 1) rfl
theorem mX9_needOfWord_2 : Cond.fieldLink RX9 25 "PracticeSheetsModel" "part" "[I" ∈ wsX9_needOfWord := List.mem_of_getElem? (i := 2) rfl
set_option maxHeartbeats 4000000 in
set_option maxRecDepth 100000 in
theorem qX9_needOfWord (l : Launch) (D : va_G) (E : Nat → ClassId) (ad : Nat → Nat → Nat) (L : List (Nat × Nat)) (A : Nat → Prop) (hF : gF E ad L A) (hLm : gLm L) (M0 : gW) (a1 : Int32)  (K : Int32 → gW → Prop) (hw : wX9_needOfWord M0 a1 K) : Met l yX9_needOfWord wsX9_needOfWord rmX9_needOfWord (va_Pc [.ref (ad 21 0), .int a1] (gPre D E ad L M0)) (gQi D E ad L A K) 0 0 A := by
  refine Met.ofW (cc := cX9_needOfWord) (maxL := 4) (ret := (some .int)) (by decide) rfl ?_
  intro p e s m args below meth c s₁ B hml hv
  obtain ⟨rfl, hP, hK, hN⟩ := hv
  have hx := B.exec
  have hb := B.bytes
  have hr := B.returns
  have hts := atoms_spec (ws := wsX9_needOfWord) B.pre
  have hown : s.vm.findClass RX9 = some m.cls := findClass_of_methodNamed B.named
  have hlocks := B.notSynchronized
  have S : CallFix p m c cX9_needOfWord 4 s ([.ref (ad 21 0), .int a1] : List Value).toArray wsX9_needOfWord RX9 := ⟨hx, hb, hml, hown, hts⟩
  have hS : va_S A s.heap s.heap [] := va_S.rf
  have hl := lv_entry ([.ref (ad 21 0), .int a1]) (n := 4) (Nat.le_of_ble_eq_true rfl)
  rw [lg_entry_eq]
  generalize (lg_sl ([.ref (ad 21 0), .int a1]) ++ List.replicate (4 - (lg_sl ([.ref (ad 21 0), .int a1])).length) Slot.unset).toArray = ls at hl ⊢
  have hl : lv_has ls 4 [(0, .ref (ad 21 0)), (1, .int a1)] := hl
  refine lv_aload_n hx hb dX9_needOfWord_0 rfl (lv_at hl 0 rfl) ?_
  refine lv_iload_n hx hb dX9_needOfWord_1 rfl (lv_at hl 1 rfl) ?_
  refine g_Vv (As := [.int a1]) (rest := []) S hK hN hP hS (qX9_findsParts l D E ad L A hF hLm M0 a1  _ hw) (cwV 1 hts gX9_needOfWord_X9_findsParts rfl rfl rfl eX9_findsParts ⟨Nat.le_of_ble_eq_true rfl, Nat.le_of_ble_eq_true rfl⟩) (hLm.h (f := 21) (by decide)) (gC21 _ _ _ _) gcl9 rfl rfl rfl hl.1 (Nat.le_of_ble_eq_true rfl) ⟨Nat.zero_le _, Nat.zero_le _⟩ dX9_needOfWord_2 (fun M1 H locs hw hP hS => ?_)
  refine lv_iconst (v := (0 : Int32)) hx hb dX9_needOfWord_5 (by decide) ?_
  refine lv_istore_n (lv' := [(2, .int (0 : Int32)), (0, .ref (ad 21 0)), (1, .int a1)]) hx hb dX9_needOfWord_6 rfl hl (by decide) rfl (fun ls hl => ?_)
  refine lv_iconst (v := (0 : Int32)) hx hb dX9_needOfWord_7 (by decide) ?_
  refine lv_istore_n (lv' := [(3, .int (0 : Int32)), (2, .int (0 : Int32)), (0, .ref (ad 21 0)), (1, .int a1)]) hx hb dX9_needOfWord_8 rfl hl (by decide) rfl (fun ls hl => ?_)
  obtain ⟨n13, hw⟩ := hw
  have hxX9_needOfWord_L9_0 : ∀ (M10 : gW) (x2_11 : Int32) (x3_12 : Int32) (H : Heap) (locs : List Loc) (ls : Array Slot), (K x2_11 M10) → va_P D vwCl (gL E ad L M10) H → va_S A s.heap H locs → lv_has ls 4 [(0, .ref (ad 21 0)), (1, .int a1), (2, .int x2_11), (3, .int x3_12)] → W p l e (headSpec wsX9_needOfWord rmX9_needOfWord).room s m (([.ref (ad 21 0), .int a1] : List Value).toArray) below meth c H locs 0 0 (MQ below (gQi D E ad L A K) ([.ref (ad 21 0), .int a1] : List Value).toArray s 0 0 A) (F0 m 36 ls []) := by
    intro M10 x2_11 x3_12 H locs ls hw hP hS hl
    refine lv_iload_n hx hb dX9_needOfWord_36 rfl (lv_at hl 2 rfl) ?_
    exact g_iret hx hb hr hlocks hw hP hS dX9_needOfWord_37
  have hlX9_needOfWord_L9 : ∀ (n2 : Nat) (M3 : gW) (x2_4 : Int32) (x3_5 : Int32) (H : Heap) (locs : List Loc) (ls : Array Slot), wX9_needOfWord_L9 (fun M10 x2_11 x3_12 => (K x2_11 M10)) n2 M3 x2_4 x3_5 → va_P D vwCl (gL E ad L M3) H → va_S A s.heap H locs → lv_has ls 4 [(0, .ref (ad 21 0)), (1, .int a1), (2, .int x2_4), (3, .int x3_5)] → W p l e (headSpec wsX9_needOfWord rmX9_needOfWord).room s m (([.ref (ad 21 0), .int a1] : List Value).toArray) below meth c H locs 0 0 (MQ below (gQi D E ad L A K) ([.ref (ad 21 0), .int a1] : List Value).toArray s 0 0 A) (F0 m 9 ls []) := by
    intro n2
    induction n2 with
    | zero => intro M3 x2_4 x3_5 H locs ls hw; exact False.elim hw
    | succ n2 ihn2 =>
      intro M3 x2_4 x3_5 H locs ls hw hP hS hl
      refine lv_iload_n hx hb dX9_needOfWord_9 rfl (lv_at hl 3 rfl) ?_
      refine lv_aload_n hx hb dX9_needOfWord_10 rfl (lv_at hl 0 rfl) ?_
      refine g_get (v := .int (M3 21 0 8)) hx hb hts hown hK hP (hLm.h (f := 21) (by decide)) (gC21 _ _ _ _) gcl9 iX9_needOfWord_X9 8 (by decide) mX9_needOfWord_1 rfl rfl dX9_needOfWord_11 ?_
      refine lv_icmp_ge (tgt := 36) hx hb dX9_needOfWord_14 (by decide) (fun c6 => ?_) (fun c6 => ?_)
      · have hw := hw.1 c6
        exact hxX9_needOfWord_L9_0 _ _ _ _ _ _ hw hP hS (lv_sub hl [0, 1, 2, 3] rfl)
      · have hw := hw.2 c6
        refine lv_iload_n hx hb dX9_needOfWord_17 rfl (lv_at hl 2 rfl) ?_
        refine lv_aload_n hx hb dX9_needOfWord_18 rfl (lv_at hl 0 rfl) ?_
        refine lv_aload_n hx hb dX9_needOfWord_19 rfl (lv_at hl 0 rfl) ?_
        refine g_get (v := .ref (ad 22 5)) hx hb hts hown hK hP (hLm.h (f := 21) (by decide)) (gC21 _ _ _ _) gcl9 iX9_needOfWord_X9 7 (by decide) mX9_needOfWord_2 rfl rfl dX9_needOfWord_20 ?_
        refine lv_iload_n hx hb dX9_needOfWord_23 rfl (lv_at hl 3 rfl) ?_
        have hb7 := hw.1
        have hw := hw.2
        refine g_iald (n := 29) hx hb hK hP (hLm.h (f := 22) (by decide)) rfl hb7 dX9_needOfWord_24 ?_
        refine g_Vi (As := [.int (M3 22 5 x3_5.toNatClampNeg)]) (rest := [.int x2_4]) S hK hN hP hS (qX9_needOf l D E ad L A hF hLm M3 (M3 22 5 x3_5.toNatClampNeg)  _ hw) (cwV 1 hts gX9_needOfWord_X9_needOf rfl rfl rfl eX9_needOf ⟨Nat.le_of_ble_eq_true rfl, Nat.le_of_ble_eq_true rfl⟩) (hLm.h (f := 21) (by decide)) (gC21 _ _ _ _) gcl9 rfl rfl rfl hl.1 (Nat.le_of_ble_eq_true rfl) ⟨Nat.zero_le _, Nat.zero_le _⟩ dX9_needOfWord_25 (fun r9 M8 H locs hw hP hS => ?_)
        refine lv_iadd hx hb dX9_needOfWord_28 ?_
        refine lv_istore_n (lv' := [(2, .int (x2_4 + r9)), (0, .ref (ad 21 0)), (1, .int a1), (3, .int x3_5)]) hx hb dX9_needOfWord_29 rfl hl (by decide) rfl (fun ls hl => ?_)
        refine lv_iinc (v := (x3_5 + (1 : Int32))) (lv' := [(3, .int (x3_5 + (1 : Int32))), (2, .int (x2_4 + r9)), (0, .ref (ad 21 0)), (1, .int a1)]) hx hb dX9_needOfWord_30 hl (k := 3) rfl rfl (by decide) rfl (fun ls hl => ?_)
        refine lv_goto (tgt := 9) hx hb dX9_needOfWord_33 (by decide) ?_
        exact ihn2 _ _ _ _ _ _ hw hP hS (lv_sub hl [2, 3, 1, 0] rfl)
  exact hlX9_needOfWord_L9 n13 _ _ _ _ _ _ hw hP hS (lv_sub hl [2, 3, 1, 0] rfl)
abbrev rmX9_partsOf : Room := { frames := 2, cells := 0, slots := 0, locals := 45 }
theorem eX9_partsOf : yX9_partsOf.cls = RX9 ∧ yX9_partsOf.cls ≠ "java/lang/invoke/MethodHandle" ∧ yX9_partsOf.cls ≠ "java/lang/invoke/VarHandle" ∧ (parseMethodDescriptor yX9_partsOf.desc).map (fun d => d.parameters.length) = some 2 := by decide +kernel
theorem iX9_partsOf_X9 : ∀ w ∈ wsX90, w ∈ wsX9_partsOf := fun _ h => List.mem_cons_of_mem _ (List.mem_append_right _ (h))
theorem mX9_partsOf_1 : Cond.fieldLink RX9 61 "PracticeSheetsModel" "parts" "I" ∈ wsX9_partsOf := List.mem_of_getElem? (i := 1) rfl
theorem mX9_partsOf_2 : Cond.fieldLink RX9 25 "PracticeSheetsModel" "part" "[I" ∈ wsX9_partsOf := List.mem_of_getElem? (i := 2) rfl
set_option maxHeartbeats 4000000 in
set_option maxRecDepth 100000 in
theorem qX9_partsOf (l : Launch) (D : va_G) (E : Nat → ClassId) (ad : Nat → Nat → Nat) (L : List (Nat × Nat)) (A : Nat → Prop) (hF : gF E ad L A) (hLm : gLm L) (M0 : gW) (a1 : Int32) (a2 : Int32)  (K : Int32 → gW → Prop) (hw : wX9_partsOf M0 a1 a2 K) : Met l yX9_partsOf wsX9_partsOf rmX9_partsOf (va_Pc [.ref (ad 21 0), .int a1, .int a2] (gPre D E ad L M0)) (gQi D E ad L A K) 0 0 A := by
  refine Met.ofW (cc := cX9_partsOf) (maxL := 5) (ret := (some .int)) (by decide) rfl ?_
  intro p e s m args below meth c s₁ B hml hv
  obtain ⟨rfl, hP, hK, hN⟩ := hv
  have hx := B.exec
  have hb := B.bytes
  have hr := B.returns
  have hts := atoms_spec (ws := wsX9_partsOf) B.pre
  have hown : s.vm.findClass RX9 = some m.cls := findClass_of_methodNamed B.named
  have hlocks := B.notSynchronized
  have S : CallFix p m c cX9_partsOf 5 s ([.ref (ad 21 0), .int a1, .int a2] : List Value).toArray wsX9_partsOf RX9 := ⟨hx, hb, hml, hown, hts⟩
  have hS : va_S A s.heap s.heap [] := va_S.rf
  have hl := lv_entry ([.ref (ad 21 0), .int a1, .int a2]) (n := 5) (Nat.le_of_ble_eq_true rfl)
  rw [lg_entry_eq]
  generalize (lg_sl ([.ref (ad 21 0), .int a1, .int a2]) ++ List.replicate (5 - (lg_sl ([.ref (ad 21 0), .int a1, .int a2])).length) Slot.unset).toArray = ls at hl ⊢
  have hl : lv_has ls 5 [(0, .ref (ad 21 0)), (1, .int a1), (2, .int a2)] := hl
  refine lv_aload_n hx hb dX9_partsOf_0 rfl (lv_at hl 0 rfl) ?_
  refine lv_iload_n hx hb dX9_partsOf_1 rfl (lv_at hl 1 rfl) ?_
  refine g_Vv (As := [.int a1]) (rest := []) S hK hN hP hS (qX9_findsParts l D E ad L A hF hLm M0 a1  _ hw) (cwV 1 hts gX9_partsOf_X9_findsParts rfl rfl rfl eX9_findsParts ⟨Nat.le_of_ble_eq_true rfl, Nat.le_of_ble_eq_true rfl⟩) (hLm.h (f := 21) (by decide)) (gC21 _ _ _ _) gcl9 rfl rfl rfl hl.1 (Nat.le_of_ble_eq_true rfl) ⟨Nat.zero_le _, Nat.zero_le _⟩ dX9_partsOf_2 (fun M1 H locs hw hP hS => ?_)
  refine lv_iconst (v := (0 : Int32)) hx hb dX9_partsOf_5 (by decide) ?_
  refine lv_istore_n (lv' := [(3, .int (0 : Int32)), (0, .ref (ad 21 0)), (1, .int a1), (2, .int a2)]) hx hb dX9_partsOf_6 rfl hl (by decide) rfl (fun ls hl => ?_)
  refine lv_iconst (v := (0 : Int32)) hx hb dX9_partsOf_7 (by decide) ?_
  refine lv_istore (lv' := [(4, .int (0 : Int32)), (3, .int (0 : Int32)), (0, .ref (ad 21 0)), (1, .int a1), (2, .int a2)]) hx hb dX9_partsOf_8 hl (by decide) rfl (fun ls hl => ?_)
  obtain ⟨n15, hw⟩ := hw
  have hxX9_partsOf_L10_0 : ∀ (M12 : gW) (x3_13 : Int32) (x4_14 : Int32) (H : Heap) (locs : List Loc) (ls : Array Slot), (K x3_13 M12) → va_P D vwCl (gL E ad L M12) H → va_S A s.heap H locs → lv_has ls 5 [(0, .ref (ad 21 0)), (1, .int a1), (2, .int a2), (3, .int x3_13), (4, .int x4_14)] → W p l e (headSpec wsX9_partsOf rmX9_partsOf).room s m (([.ref (ad 21 0), .int a1, .int a2] : List Value).toArray) below meth c H locs 0 0 (MQ below (gQi D E ad L A K) ([.ref (ad 21 0), .int a1, .int a2] : List Value).toArray s 0 0 A) (F0 m 51 ls []) := by
    intro M12 x3_13 x4_14 H locs ls hw hP hS hl
    refine lv_iload_n hx hb dX9_partsOf_51 rfl (lv_at hl 3 rfl) ?_
    exact g_iret hx hb hr hlocks hw hP hS dX9_partsOf_52
  have hlX9_partsOf_L10 : ∀ (n2 : Nat) (M3 : gW) (x3_4 : Int32) (x4_5 : Int32) (H : Heap) (locs : List Loc) (ls : Array Slot), wX9_partsOf_L10 a2 (fun M12 x3_13 x4_14 => (K x3_13 M12)) n2 M3 x3_4 x4_5 → va_P D vwCl (gL E ad L M3) H → va_S A s.heap H locs → lv_has ls 5 [(0, .ref (ad 21 0)), (1, .int a1), (2, .int a2), (3, .int x3_4), (4, .int x4_5)] → W p l e (headSpec wsX9_partsOf rmX9_partsOf).room s m (([.ref (ad 21 0), .int a1, .int a2] : List Value).toArray) below meth c H locs 0 0 (MQ below (gQi D E ad L A K) ([.ref (ad 21 0), .int a1, .int a2] : List Value).toArray s 0 0 A) (F0 m 10 ls []) := by
    intro n2
    induction n2 with
    | zero => intro M3 x3_4 x4_5 H locs ls hw; exact False.elim hw
    | succ n2 ihn2 =>
      intro M3 x3_4 x4_5 H locs ls hw hP hS hl
      refine lv_iload hx hb dX9_partsOf_10 (lv_at hl 4 rfl) ?_
      refine lv_aload_n hx hb dX9_partsOf_12 rfl (lv_at hl 0 rfl) ?_
      refine g_get (v := .int (M3 21 0 8)) hx hb hts hown hK hP (hLm.h (f := 21) (by decide)) (gC21 _ _ _ _) gcl9 iX9_partsOf_X9 8 (by decide) mX9_partsOf_1 rfl rfl dX9_partsOf_13 ?_
      refine lv_icmp_ge (tgt := 51) hx hb dX9_partsOf_16 (by decide) (fun c6 => ?_) (fun c6 => ?_)
      · have hw := hw.1 c6
        exact hxX9_partsOf_L10_0 _ _ _ _ _ _ hw hP hS (lv_sub hl [0, 1, 2, 3, 4] rfl)
      · have hw := hw.2 c6
        refine lv_iload_n hx hb dX9_partsOf_19 rfl (lv_at hl 3 rfl) ?_
        refine lv_iload_n hx hb dX9_partsOf_20 rfl (lv_at hl 2 rfl) ?_
        refine lv_if_eq (tgt := 38) hx hb dX9_partsOf_21 (by decide) (fun c7 => ?_) (fun c7 => ?_)
        · have hw := hw.1 c7
          refine lv_iconst (v := (1 : Int32)) hx hb dX9_partsOf_38 (by decide) ?_
          refine lv_goto (tgt := 43) hx hb dX9_partsOf_39 (by decide) ?_
          refine lv_iadd hx hb dX9_partsOf_43 ?_
          refine lv_istore_n (lv' := [(3, .int (x3_4 + (1 : Int32))), (0, .ref (ad 21 0)), (1, .int a1), (2, .int a2), (4, .int x4_5)]) hx hb dX9_partsOf_44 rfl hl (by decide) rfl (fun ls hl => ?_)
          refine lv_iinc (v := (x4_5 + (1 : Int32))) (lv' := [(4, .int (x4_5 + (1 : Int32))), (3, .int (x3_4 + (1 : Int32))), (0, .ref (ad 21 0)), (1, .int a1), (2, .int a2)]) hx hb dX9_partsOf_45 hl (k := 4) rfl rfl (by decide) rfl (fun ls hl => ?_)
          refine lv_goto (tgt := 10) hx hb dX9_partsOf_48 (by decide) ?_
          exact ihn2 _ _ _ _ _ _ hw hP hS (lv_sub hl [2, 3, 4, 1, 0] rfl)
        · have hw := hw.2 c7
          refine lv_aload_n hx hb dX9_partsOf_24 rfl (lv_at hl 0 rfl) ?_
          refine lv_aload_n hx hb dX9_partsOf_25 rfl (lv_at hl 0 rfl) ?_
          refine g_get (v := .ref (ad 22 5)) hx hb hts hown hK hP (hLm.h (f := 21) (by decide)) (gC21 _ _ _ _) gcl9 iX9_partsOf_X9 7 (by decide) mX9_partsOf_2 rfl rfl dX9_partsOf_26 ?_
          refine lv_iload hx hb dX9_partsOf_29 (lv_at hl 4 rfl) ?_
          have hb8 := hw.1
          have hw := hw.2
          refine g_iald (n := 29) hx hb hK hP (hLm.h (f := 22) (by decide)) rfl hb8 dX9_partsOf_31 ?_
          refine g_Vi (As := [.int (M3 22 5 x4_5.toNatClampNeg)]) (rest := [.int x3_4]) S hK hN hP hS (qX9_isUntried l D E ad L A hF hLm M3 (M3 22 5 x4_5.toNatClampNeg)  _ hw) (cwV 1 hts gX9_partsOf_X9_isUntried rfl rfl rfl eX9_isUntried ⟨Nat.le_of_ble_eq_true rfl, Nat.le_of_ble_eq_true rfl⟩) (hLm.h (f := 21) (by decide)) (gC21 _ _ _ _) gcl9 rfl rfl rfl hl.1 (Nat.le_of_ble_eq_true rfl) ⟨Nat.zero_le _, Nat.zero_le _⟩ dX9_partsOf_32 (fun r10 M9 H locs hw hP hS => ?_)
          refine lv_if_eq (tgt := 42) hx hb dX9_partsOf_35 (by decide) (fun c11 => ?_) (fun c11 => ?_)
          · have hw := hw.1 c11
            refine lv_iconst (v := (0 : Int32)) hx hb dX9_partsOf_42 (by decide) ?_
            refine lv_iadd hx hb dX9_partsOf_43 ?_
            refine lv_istore_n (lv' := [(3, .int (x3_4 + (0 : Int32))), (0, .ref (ad 21 0)), (1, .int a1), (2, .int a2), (4, .int x4_5)]) hx hb dX9_partsOf_44 rfl hl (by decide) rfl (fun ls hl => ?_)
            refine lv_iinc (v := (x4_5 + (1 : Int32))) (lv' := [(4, .int (x4_5 + (1 : Int32))), (3, .int (x3_4 + (0 : Int32))), (0, .ref (ad 21 0)), (1, .int a1), (2, .int a2)]) hx hb dX9_partsOf_45 hl (k := 4) rfl rfl (by decide) rfl (fun ls hl => ?_)
            refine lv_goto (tgt := 10) hx hb dX9_partsOf_48 (by decide) ?_
            exact ihn2 _ _ _ _ _ _ hw hP hS (lv_sub hl [2, 3, 4, 1, 0] rfl)
          · have hw := hw.2 c11
            refine lv_iconst (v := (1 : Int32)) hx hb dX9_partsOf_38 (by decide) ?_
            refine lv_goto (tgt := 43) hx hb dX9_partsOf_39 (by decide) ?_
            refine lv_iadd hx hb dX9_partsOf_43 ?_
            refine lv_istore_n (lv' := [(3, .int (x3_4 + (1 : Int32))), (0, .ref (ad 21 0)), (1, .int a1), (2, .int a2), (4, .int x4_5)]) hx hb dX9_partsOf_44 rfl hl (by decide) rfl (fun ls hl => ?_)
            refine lv_iinc (v := (x4_5 + (1 : Int32))) (lv' := [(4, .int (x4_5 + (1 : Int32))), (3, .int (x3_4 + (1 : Int32))), (0, .ref (ad 21 0)), (1, .int a1), (2, .int a2)]) hx hb dX9_partsOf_45 hl (k := 4) rfl rfl (by decide) rfl (fun ls hl => ?_)
            refine lv_goto (tgt := 10) hx hb dX9_partsOf_48 (by decide) ?_
            exact ihn2 _ _ _ _ _ _ hw hP hS (lv_sub hl [2, 3, 4, 1, 0] rfl)
  exact hlX9_partsOf_L10 n15 _ _ _ _ _ _ hw hP hS (lv_sub hl [2, 3, 4, 1, 0] rfl)
abbrev rmX9_firstGain : Room := { frames := 3, cells := 0, slots := 0, locals := 69 }
theorem eX9_firstGain : yX9_firstGain.cls = RX9 ∧ yX9_firstGain.cls ≠ "java/lang/invoke/MethodHandle" ∧ yX9_firstGain.cls ≠ "java/lang/invoke/VarHandle" ∧ (parseMethodDescriptor yX9_firstGain.desc).map (fun d => d.parameters.length) = some 1 := by decide +kernel
set_option maxHeartbeats 4000000 in
set_option maxRecDepth 100000 in
theorem qX9_firstGain (l : Launch) (D : va_G) (E : Nat → ClassId) (ad : Nat → Nat → Nat) (L : List (Nat × Nat)) (A : Nat → Prop) (hF : gF E ad L A) (hLm : gLm L) (M0 : gW) (a1 : Int32)  (K : Int32 → gW → Prop) (hw : wX9_firstGain M0 a1 K) : Met l yX9_firstGain wsX9_firstGain rmX9_firstGain (va_Pc [.ref (ad 21 0), .int a1] (gPre D E ad L M0)) (gQi D E ad L A K) 0 0 A := by
  refine Met.ofW (cc := cX9_firstGain) (maxL := 2) (ret := (some .int)) (by decide) rfl ?_
  intro p e s m args below meth c s₁ B hml hv
  obtain ⟨rfl, hP, hK, hN⟩ := hv
  have hx := B.exec
  have hb := B.bytes
  have hr := B.returns
  have hts := atoms_spec (ws := wsX9_firstGain) B.pre
  have hown : s.vm.findClass RX9 = some m.cls := findClass_of_methodNamed B.named
  have hlocks := B.notSynchronized
  have S : CallFix p m c cX9_firstGain 2 s ([.ref (ad 21 0), .int a1] : List Value).toArray wsX9_firstGain RX9 := ⟨hx, hb, hml, hown, hts⟩
  have hS : va_S A s.heap s.heap [] := va_S.rf
  have hl := lv_entry ([.ref (ad 21 0), .int a1]) (n := 2) (Nat.le_of_ble_eq_true rfl)
  rw [lg_entry_eq]
  generalize (lg_sl ([.ref (ad 21 0), .int a1]) ++ List.replicate (2 - (lg_sl ([.ref (ad 21 0), .int a1])).length) Slot.unset).toArray = ls at hl ⊢
  have hl : lv_has ls 2 [(0, .ref (ad 21 0)), (1, .int a1)] := hl
  refine lv_aload_n hx hb dX9_firstGain_0 rfl (lv_at hl 0 rfl) ?_
  refine g_Vv (As := []) (rest := []) S hK hN hP hS (qX9_coversNone l D E ad L A hF hLm M0  _ hw) (cwV 0 hts gX9_firstGain_X9_coversNone rfl rfl rfl eX9_coversNone ⟨Nat.le_of_ble_eq_true rfl, Nat.le_of_ble_eq_true rfl⟩) (hLm.h (f := 21) (by decide)) (gC21 _ _ _ _) gcl9 rfl rfl rfl hl.1 (Nat.le_of_ble_eq_true rfl) ⟨Nat.zero_le _, Nat.zero_le _⟩ dX9_firstGain_1 (fun M1 H locs hw hP hS => ?_)
  refine lv_aload_n hx hb dX9_firstGain_4 rfl (lv_at hl 0 rfl) ?_
  refine lv_iload_n hx hb dX9_firstGain_5 rfl (lv_at hl 1 rfl) ?_
  refine g_Vi (As := [.int a1]) (rest := []) S hK hN hP hS (qX9_gainOf l D E ad L A hF hLm M1 a1  _ hw) (cwV 1 hts gX9_firstGain_X9_gainOf rfl rfl rfl eX9_gainOf ⟨Nat.le_of_ble_eq_true rfl, Nat.le_of_ble_eq_true rfl⟩) (hLm.h (f := 21) (by decide)) (gC21 _ _ _ _) gcl9 rfl rfl rfl hl.1 (Nat.le_of_ble_eq_true rfl) ⟨Nat.zero_le _, Nat.zero_le _⟩ dX9_firstGain_6 (fun r3 M2 H locs hw hP hS => ?_)
  exact g_iret hx hb hr hlocks hw hP hS dX9_firstGain_9
abbrev rmX9_word : Room := { frames := 4, cells := 0, slots := 0, locals := 90 }
theorem eX9_word : yX9_word.cls = RX9 ∧ yX9_word.cls ≠ "java/lang/invoke/MethodHandle" ∧ yX9_word.cls ≠ "java/lang/invoke/VarHandle" ∧ (parseMethodDescriptor yX9_word.desc).map (fun d => d.parameters.length) = some 2 := by decide +kernel
set_option maxHeartbeats 4000000 in
set_option maxRecDepth 100000 in
theorem qX9_word (l : Launch) (D : va_G) (E : Nat → ClassId) (ad : Nat → Nat → Nat) (L : List (Nat × Nat)) (A : Nat → Prop) (hF : gF E ad L A) (hLm : gLm L) (M0 : gW) (a1 : Int32) (a2 : Int32)  (K : Int32 → gW → Prop) (hw : wX9_word M0 a1 a2 K) : Met l yX9_word wsX9_word rmX9_word (va_Pc [.ref (ad 21 0), .int a1, .int a2] (gPre D E ad L M0)) (gQi D E ad L A K) 0 0 A := by
  refine Met.ofW (cc := cX9_word) (maxL := 3) (ret := (some .int)) (by decide) rfl ?_
  intro p e s m args below meth c s₁ B hml hv
  obtain ⟨rfl, hP, hK, hN⟩ := hv
  have hx := B.exec
  have hb := B.bytes
  have hr := B.returns
  have hts := atoms_spec (ws := wsX9_word) B.pre
  have hown : s.vm.findClass RX9 = some m.cls := findClass_of_methodNamed B.named
  have hlocks := B.notSynchronized
  have S : CallFix p m c cX9_word 3 s ([.ref (ad 21 0), .int a1, .int a2] : List Value).toArray wsX9_word RX9 := ⟨hx, hb, hml, hown, hts⟩
  have hS : va_S A s.heap s.heap [] := va_S.rf
  have hl := lv_entry ([.ref (ad 21 0), .int a1, .int a2]) (n := 3) (Nat.le_of_ble_eq_true rfl)
  rw [lg_entry_eq]
  generalize (lg_sl ([.ref (ad 21 0), .int a1, .int a2]) ++ List.replicate (3 - (lg_sl ([.ref (ad 21 0), .int a1, .int a2])).length) Slot.unset).toArray = ls at hl ⊢
  have hl : lv_has ls 3 [(0, .ref (ad 21 0)), (1, .int a1), (2, .int a2)] := hl
  refine lv_aload_n hx hb dX9_word_0 rfl (lv_at hl 0 rfl) ?_
  refine lv_iload_n hx hb dX9_word_1 rfl (lv_at hl 1 rfl) ?_
  refine g_Vi (As := [.int a1]) (rest := []) S hK hN hP hS (qX9_isWord l D E ad L A hF hLm M0 a1  _ hw) (cwV 1 hts gX9_word_X9_isWord rfl rfl rfl eX9_isWord ⟨Nat.le_of_ble_eq_true rfl, Nat.le_of_ble_eq_true rfl⟩) (hLm.h (f := 21) (by decide)) (gC21 _ _ _ _) gcl9 rfl rfl rfl hl.1 (Nat.le_of_ble_eq_true rfl) ⟨Nat.zero_le _, Nat.zero_le _⟩ dX9_word_2 (fun r2 M1 H locs hw hP hS => ?_)
  refine lv_if_ne (tgt := 10) hx hb dX9_word_5 (by decide) (fun c3 => ?_) (fun c3 => ?_)
  · have hw := hw.2 c3
    refine lv_iload_n hx hb dX9_word_10 rfl (lv_at hl 2 rfl) ?_
    by_cases c4 : a2 = (0 : Int32)
    · have hw := hw.1 c4
      refine g_swK (tgt := 44) hx hb dX9_word_11 0 c4 (by decide) (by decide) rfl (by decide) ?_
      refine lv_aload_n hx hb dX9_word_44 rfl (lv_at hl 0 rfl) ?_
      refine lv_iload_n hx hb dX9_word_45 rfl (lv_at hl 1 rfl) ?_
      refine g_Vi (As := [.int a1]) (rest := []) S hK hN hP hS (qX9_sizeOf l D E ad L A hF hLm M1 a1  _ hw) (cwV 1 hts gX9_word_X9_sizeOf rfl rfl rfl eX9_sizeOf ⟨Nat.le_of_ble_eq_true rfl, Nat.le_of_ble_eq_true rfl⟩) (hLm.h (f := 21) (by decide)) (gC21 _ _ _ _) gcl9 rfl rfl rfl hl.1 (Nat.le_of_ble_eq_true rfl) ⟨Nat.zero_le _, Nat.zero_le _⟩ dX9_word_46 (fun r6 M5 H locs hw hP hS => ?_)
      exact g_iret hx hb hr hlocks hw hP hS dX9_word_49
    · 
      by_cases c7 : a2 = (1 : Int32)
      · have hw := hw.2.1 c7
        refine g_swK (tgt := 50) hx hb dX9_word_11 1 c7 (by decide) (by decide) rfl (by decide) ?_
        refine lv_aload_n hx hb dX9_word_50 rfl (lv_at hl 0 rfl) ?_
        refine lv_iload_n hx hb dX9_word_51 rfl (lv_at hl 1 rfl) ?_
        refine g_Vi (As := [.int a1]) (rest := []) S hK hN hP hS (qX9_needOfWord l D E ad L A hF hLm M1 a1  _ hw) (cwV 1 hts gX9_word_X9_needOfWord rfl rfl rfl eX9_needOfWord ⟨Nat.le_of_ble_eq_true rfl, Nat.le_of_ble_eq_true rfl⟩) (hLm.h (f := 21) (by decide)) (gC21 _ _ _ _) gcl9 rfl rfl rfl hl.1 (Nat.le_of_ble_eq_true rfl) ⟨Nat.zero_le _, Nat.zero_le _⟩ dX9_word_52 (fun r9 M8 H locs hw hP hS => ?_)
        exact g_iret hx hb hr hlocks hw hP hS dX9_word_55
      · 
        by_cases c10 : a2 = (2 : Int32)
        · have hw := hw.2.2.1 c10
          refine g_swK (tgt := 56) hx hb dX9_word_11 2 c10 (by decide) (by decide) rfl (by decide) ?_
          refine lv_aload_n hx hb dX9_word_56 rfl (lv_at hl 0 rfl) ?_
          refine lv_iload_n hx hb dX9_word_57 rfl (lv_at hl 1 rfl) ?_
          refine lv_iconst (v := (0 : Int32)) hx hb dX9_word_58 (by decide) ?_
          refine g_Vi (As := [.int a1, .int (0 : Int32)]) (rest := []) S hK hN hP hS (qX9_partsOf l D E ad L A hF hLm M1 a1 (0 : Int32)  _ hw) (cwV 2 hts gX9_word_X9_partsOf rfl rfl rfl eX9_partsOf ⟨Nat.le_of_ble_eq_true rfl, Nat.le_of_ble_eq_true rfl⟩) (hLm.h (f := 21) (by decide)) (gC21 _ _ _ _) gcl9 rfl rfl rfl hl.1 (Nat.le_of_ble_eq_true rfl) ⟨Nat.zero_le _, Nat.zero_le _⟩ dX9_word_59 (fun r12 M11 H locs hw hP hS => ?_)
          exact g_iret hx hb hr hlocks hw hP hS dX9_word_62
        · 
          by_cases c13 : a2 = (3 : Int32)
          · have hw := hw.2.2.2.1 c13
            refine g_swK (tgt := 63) hx hb dX9_word_11 3 c13 (by decide) (by decide) rfl (by decide) ?_
            refine lv_aload_n hx hb dX9_word_63 rfl (lv_at hl 0 rfl) ?_
            refine lv_iload_n hx hb dX9_word_64 rfl (lv_at hl 1 rfl) ?_
            refine lv_iconst (v := (1 : Int32)) hx hb dX9_word_65 (by decide) ?_
            refine g_Vi (As := [.int a1, .int (1 : Int32)]) (rest := []) S hK hN hP hS (qX9_partsOf l D E ad L A hF hLm M1 a1 (1 : Int32)  _ hw) (cwV 2 hts gX9_word_X9_partsOf rfl rfl rfl eX9_partsOf ⟨Nat.le_of_ble_eq_true rfl, Nat.le_of_ble_eq_true rfl⟩) (hLm.h (f := 21) (by decide)) (gC21 _ _ _ _) gcl9 rfl rfl rfl hl.1 (Nat.le_of_ble_eq_true rfl) ⟨Nat.zero_le _, Nat.zero_le _⟩ dX9_word_66 (fun r15 M14 H locs hw hP hS => ?_)
            exact g_iret hx hb hr hlocks hw hP hS dX9_word_69
          · 
            by_cases c16 : a2 = (4 : Int32)
            · have hw := hw.2.2.2.2.1 c16
              refine g_swK (tgt := 70) hx hb dX9_word_11 4 c16 (by decide) (by decide) rfl (by decide) ?_
              refine lv_aload_n hx hb dX9_word_70 rfl (lv_at hl 0 rfl) ?_
              refine lv_iload_n hx hb dX9_word_71 rfl (lv_at hl 1 rfl) ?_
              refine g_Vi (As := [.int a1]) (rest := []) S hK hN hP hS (qX9_firstGain l D E ad L A hF hLm M1 a1  _ hw) (cwV 1 hts gX9_word_X9_firstGain rfl rfl rfl eX9_firstGain ⟨Nat.le_of_ble_eq_true rfl, Nat.le_of_ble_eq_true rfl⟩) (hLm.h (f := 21) (by decide)) (gC21 _ _ _ _) gcl9 rfl rfl rfl hl.1 (Nat.le_of_ble_eq_true rfl) ⟨Nat.zero_le _, Nat.zero_le _⟩ dX9_word_72 (fun r18 M17 H locs hw hP hS => ?_)
              exact g_iret hx hb hr hlocks hw hP hS dX9_word_75
            · have hw := hw.2.2.2.2.2 c4 c7 c10 c13 c16
              refine lv_tableOut (tgt := 76) hx hb dX9_word_11 (by have z0 := g_ne (i := 0) (by decide) c4; have z1 := g_ne (i := 1) (by decide) c7; have z2 := g_ne (i := 2) (by decide) c10; have z3 := g_ne (i := 3) (by decide) c13; have z4 := g_ne (i := 4) (by decide) c16; omega) (by decide) ?_
              refine lv_bipush (v := (-2 : Int32)) hx hb dX9_word_76 (by decide) ?_
              exact g_iret hx hb hr hlocks hw hP hS dX9_word_78
  · have hw := hw.1 c3
    refine lv_iconst (v := (-1 : Int32)) hx hb dX9_word_8 (by decide) ?_
    exact g_iret hx hb hr hlocks hw hP hS dX9_word_9
abbrev rmX9_letterOf : Room := { frames := 2, cells := 0, slots := 0, locals := 46 }
theorem eX9_letterOf : yX9_letterOf.cls = RX9 ∧ yX9_letterOf.cls ≠ "java/lang/invoke/MethodHandle" ∧ yX9_letterOf.cls ≠ "java/lang/invoke/VarHandle" ∧ (parseMethodDescriptor yX9_letterOf.desc).map (fun d => d.parameters.length) = some 2 := by decide +kernel
set_option maxHeartbeats 4000000 in
set_option maxRecDepth 100000 in
theorem qX9_letterOf (l : Launch) (D : va_G) (E : Nat → ClassId) (ad : Nat → Nat → Nat) (L : List (Nat × Nat)) (A : Nat → Prop) (hF : gF E ad L A) (hLm : gLm L) (M0 : gW) (a1 : Int32) (a2 : Int32)  (K : Int32 → gW → Prop) (hw : wX9_letterOf M0 a1 a2 K) : Met l yX9_letterOf wsX9_letterOf rmX9_letterOf (va_Pc [.ref (ad 21 0), .int a1, .int a2] (gPre D E ad L M0)) (gQi D E ad L A K) 0 0 A := by
  refine Met.ofW (cc := cX9_letterOf) (maxL := 3) (ret := (some .int)) (by decide) rfl ?_
  intro p e s m args below meth c s₁ B hml hv
  obtain ⟨rfl, hP, hK, hN⟩ := hv
  have hx := B.exec
  have hb := B.bytes
  have hr := B.returns
  have hts := atoms_spec (ws := wsX9_letterOf) B.pre
  have hown : s.vm.findClass RX9 = some m.cls := findClass_of_methodNamed B.named
  have hlocks := B.notSynchronized
  have S : CallFix p m c cX9_letterOf 3 s ([.ref (ad 21 0), .int a1, .int a2] : List Value).toArray wsX9_letterOf RX9 := ⟨hx, hb, hml, hown, hts⟩
  have hS : va_S A s.heap s.heap [] := va_S.rf
  have hl := lv_entry ([.ref (ad 21 0), .int a1, .int a2]) (n := 3) (Nat.le_of_ble_eq_true rfl)
  rw [lg_entry_eq]
  generalize (lg_sl ([.ref (ad 21 0), .int a1, .int a2]) ++ List.replicate (3 - (lg_sl ([.ref (ad 21 0), .int a1, .int a2])).length) Slot.unset).toArray = ls at hl ⊢
  have hl : lv_has ls 3 [(0, .ref (ad 21 0)), (1, .int a1), (2, .int a2)] := hl
  refine lv_aload_n hx hb dX9_letterOf_0 rfl (lv_at hl 0 rfl) ?_
  refine lv_iload_n hx hb dX9_letterOf_1 rfl (lv_at hl 1 rfl) ?_
  refine g_Vi (As := [.int a1]) (rest := []) S hK hN hP hS (qX9_isWord l D E ad L A hF hLm M0 a1  _ hw) (cwV 1 hts gX9_letterOf_X9_isWord rfl rfl rfl eX9_isWord ⟨Nat.le_of_ble_eq_true rfl, Nat.le_of_ble_eq_true rfl⟩) (hLm.h (f := 21) (by decide)) (gC21 _ _ _ _) gcl9 rfl rfl rfl hl.1 (Nat.le_of_ble_eq_true rfl) ⟨Nat.zero_le _, Nat.zero_le _⟩ dX9_letterOf_2 (fun r2 M1 H locs hw hP hS => ?_)
  refine lv_if_ne (tgt := 10) hx hb dX9_letterOf_5 (by decide) (fun c3 => ?_) (fun c3 => ?_)
  · have hw := hw.2 c3
    refine lv_iload_n hx hb dX9_letterOf_10 rfl (lv_at hl 2 rfl) ?_
    refine lv_if_ge (tgt := 17) hx hb dX9_letterOf_11 (by decide) (fun c4 => ?_) (fun c4 => ?_)
    · have hw := hw.1 c4
      refine lv_iload_n hx hb dX9_letterOf_17 rfl (lv_at hl 2 rfl) ?_
      refine lv_aload_n hx hb dX9_letterOf_18 rfl (lv_at hl 0 rfl) ?_
      refine lv_iload_n hx hb dX9_letterOf_19 rfl (lv_at hl 1 rfl) ?_
      refine g_Vi (As := [.int a1]) (rest := [.int a2]) S hK hN hP hS (qX9_sizeOf l D E ad L A hF hLm M1 a1  _ hw) (cwV 1 hts gX9_letterOf_X9_sizeOf rfl rfl rfl eX9_sizeOf ⟨Nat.le_of_ble_eq_true rfl, Nat.le_of_ble_eq_true rfl⟩) (hLm.h (f := 21) (by decide)) (gC21 _ _ _ _) gcl9 rfl rfl rfl hl.1 (Nat.le_of_ble_eq_true rfl) ⟨Nat.zero_le _, Nat.zero_le _⟩ dX9_letterOf_20 (fun r6 M5 H locs hw hP hS => ?_)
      refine lv_icmp_ge (tgt := 35) hx hb dX9_letterOf_23 (by decide) (fun c7 => ?_) (fun c7 => ?_)
      · have hw := hw.1 c7
        refine lv_bipush (v := (-5 : Int32)) hx hb dX9_letterOf_35 (by decide) ?_
        exact g_iret hx hb hr hlocks hw hP hS dX9_letterOf_37
      · have hw := hw.2 c7
        refine lv_aload_n hx hb dX9_letterOf_26 rfl (lv_at hl 0 rfl) ?_
        refine lv_iload_n hx hb dX9_letterOf_27 rfl (lv_at hl 1 rfl) ?_
        refine lv_iload_n hx hb dX9_letterOf_28 rfl (lv_at hl 2 rfl) ?_
        refine g_Vi (As := [.int a1, .int a2]) (rest := []) S hK hN hP hS (qX9_letterAt l D E ad L A hF hLm M5 a1 a2  _ hw) (cwV 2 hts gX9_letterOf_X9_letterAt rfl rfl rfl eX9_letterAt ⟨Nat.le_of_ble_eq_true rfl, Nat.le_of_ble_eq_true rfl⟩) (hLm.h (f := 21) (by decide)) (gC21 _ _ _ _) gcl9 rfl rfl rfl hl.1 (Nat.le_of_ble_eq_true rfl) ⟨Nat.zero_le _, Nat.zero_le _⟩ dX9_letterOf_29 (fun r9 M8 H locs hw hP hS => ?_)
        refine lv_goto (tgt := 37) hx hb dX9_letterOf_32 (by decide) ?_
        exact g_iret hx hb hr hlocks hw hP hS dX9_letterOf_37
    · have hw := hw.2 c4
      refine lv_bipush (v := (-2 : Int32)) hx hb dX9_letterOf_14 (by decide) ?_
      exact g_iret hx hb hr hlocks hw hP hS dX9_letterOf_16
  · have hw := hw.1 c3
    refine lv_iconst (v := (-1 : Int32)) hx hb dX9_letterOf_8 (by decide) ?_
    exact g_iret hx hb hr hlocks hw hP hS dX9_letterOf_9
abbrev rmX9_sheet : Room := { frames := 5, cells := 0, slots := 0, locals := 117 }
theorem eX9_sheet : yX9_sheet.cls = RX9 ∧ yX9_sheet.cls ≠ "java/lang/invoke/MethodHandle" ∧ yX9_sheet.cls ≠ "java/lang/invoke/VarHandle" ∧ (parseMethodDescriptor yX9_sheet.desc).map (fun d => d.parameters.length) = some 3 := by decide +kernel
theorem iX9_sheet_X9 : ∀ w ∈ wsX90, w ∈ wsX9_sheet := fun _ h => List.mem_cons_of_mem _ (List.mem_append_right _ (h))
theorem mX9_sheet_1 : Cond.fieldLink RX9 93 "PracticeSheetsModel" "lines" "I" ∈ wsX9_sheet := List.mem_of_getElem? (i := 1) rfl
theorem mX9_sheet_3 : Cond.fieldLink RX9 31 "PracticeSheetsModel" "lineGain" "[I" ∈ wsX9_sheet := List.mem_of_getElem? (i := 3) rfl
theorem mX9_sheet_2 : Cond.fieldLink RX9 28 "PracticeSheetsModel" "lineWord" "[I" ∈ wsX9_sheet := List.mem_of_getElem? (i := 2) rfl
set_option maxHeartbeats 4000000 in
set_option maxRecDepth 100000 in
theorem qX9_sheet (l : Launch) (D : va_G) (E : Nat → ClassId) (ad : Nat → Nat → Nat) (L : List (Nat × Nat)) (A : Nat → Prop) (hF : gF E ad L A) (hLm : gLm L) (M0 : gW) (a1 : Int32) (a2 : Int32) (a3 : Int32)  (K : Int32 → gW → Prop) (hw : wX9_sheet M0 a1 a2 a3 K) : Met l yX9_sheet wsX9_sheet rmX9_sheet (va_Pc [.ref (ad 21 0), .int a1, .int a2, .int a3] (gPre D E ad L M0)) (gQi D E ad L A K) 0 0 A := by
  refine Met.ofW (cc := cX9_sheet) (maxL := 4) (ret := (some .int)) (by decide) rfl ?_
  intro p e s m args below meth c s₁ B hml hv
  obtain ⟨rfl, hP, hK, hN⟩ := hv
  have hx := B.exec
  have hb := B.bytes
  have hr := B.returns
  have hts := atoms_spec (ws := wsX9_sheet) B.pre
  have hown : s.vm.findClass RX9 = some m.cls := findClass_of_methodNamed B.named
  have hlocks := B.notSynchronized
  have S : CallFix p m c cX9_sheet 4 s ([.ref (ad 21 0), .int a1, .int a2, .int a3] : List Value).toArray wsX9_sheet RX9 := ⟨hx, hb, hml, hown, hts⟩
  have hS : va_S A s.heap s.heap [] := va_S.rf
  have hl := lv_entry ([.ref (ad 21 0), .int a1, .int a2, .int a3]) (n := 4) (Nat.le_of_ble_eq_true rfl)
  rw [lg_entry_eq]
  generalize (lg_sl ([.ref (ad 21 0), .int a1, .int a2, .int a3]) ++ List.replicate (4 - (lg_sl ([.ref (ad 21 0), .int a1, .int a2, .int a3])).length) Slot.unset).toArray = ls at hl ⊢
  have hl : lv_has ls 4 [(0, .ref (ad 21 0)), (1, .int a1), (2, .int a2), (3, .int a3)] := hl
  refine lv_iload_n hx hb dX9_sheet_0 rfl (lv_at hl 1 rfl) ?_
  refine g_Si (As := [.int a1]) (rest := []) S hK hN hP hS (qX9_isLines l D E ad L A hF hLm M0 a1  _ hw) (va_cwS 1 hts gX9_sheet_X9_isLines rfl rfl rfl eX9_isLines.2 ⟨Nat.le_of_ble_eq_true rfl, Nat.le_of_ble_eq_true rfl⟩) rfl rfl hl.1 (Nat.le_of_ble_eq_true rfl) ⟨Nat.zero_le _, Nat.zero_le _⟩ dX9_sheet_1 (fun r2 M1 H locs hw hP hS => ?_)
  refine lv_if_eq (tgt := 21) hx hb dX9_sheet_4 (by decide) (fun c3 => ?_) (fun c3 => ?_)
  · have hw := hw.1 c3
    refine lv_bipush (v := (-2 : Int32)) hx hb dX9_sheet_21 (by decide) ?_
    exact g_iret hx hb hr hlocks hw hP hS dX9_sheet_23
  · have hw := hw.2 c3
    refine lv_iload_n hx hb dX9_sheet_7 rfl (lv_at hl 2 rfl) ?_
    refine lv_if_lt (tgt := 21) hx hb dX9_sheet_8 (by decide) (fun c4 => ?_) (fun c4 => ?_)
    · have hw := hw.1 c4
      refine lv_bipush (v := (-2 : Int32)) hx hb dX9_sheet_21 (by decide) ?_
      exact g_iret hx hb hr hlocks hw hP hS dX9_sheet_23
    · have hw := hw.2 c4
      refine lv_iload_n hx hb dX9_sheet_11 rfl (lv_at hl 3 rfl) ?_
      refine lv_i2l (v := a3.toInt64) hx hb dX9_sheet_12 rfl ?_
      refine lv_lconst (v := (0 : Int64)) hx hb dX9_sheet_13 (by decide) ?_
      refine lv_lconst (v := (1 : Int64)) hx hb dX9_sheet_14 (by decide) ?_
      refine g_Si (As := [.long (a3.toInt64), .long (0 : Int64), .long (1 : Int64)]) (rest := []) S hK hN hP hS (qX9_in l D E ad L A hF hLm M1 (a3.toInt64) (0 : Int64) (1 : Int64)  _ hw) (va_cwS 3 hts gX9_sheet_X9_in rfl rfl rfl eX9_in.2 ⟨Nat.le_of_ble_eq_true rfl, Nat.le_of_ble_eq_true rfl⟩) rfl rfl hl.1 (Nat.le_of_ble_eq_true rfl) ⟨Nat.zero_le _, Nat.zero_le _⟩ dX9_sheet_15 (fun r6 M5 H locs hw hP hS => ?_)
      refine lv_if_ne (tgt := 24) hx hb dX9_sheet_18 (by decide) (fun c7 => ?_) (fun c7 => ?_)
      · have hw := hw.2 c7
        refine lv_aload_n hx hb dX9_sheet_24 rfl (lv_at hl 0 rfl) ?_
        refine lv_iload_n hx hb dX9_sheet_25 rfl (lv_at hl 1 rfl) ?_
        refine g_Vv (As := [.int a1]) (rest := []) S hK hN hP hS (qX9_makesSheet l D E ad L A hF hLm M5 a1  _ hw) (cwV 1 hts gX9_sheet_X9_makesSheet rfl rfl rfl eX9_makesSheet ⟨Nat.le_of_ble_eq_true rfl, Nat.le_of_ble_eq_true rfl⟩) (hLm.h (f := 21) (by decide)) (gC21 _ _ _ _) gcl9 rfl rfl rfl hl.1 (Nat.le_of_ble_eq_true rfl) ⟨Nat.zero_le _, Nat.zero_le _⟩ dX9_sheet_26 (fun M8 H locs hw hP hS => ?_)
        refine lv_iload_n hx hb dX9_sheet_29 rfl (lv_at hl 2 rfl) ?_
        refine lv_aload_n hx hb dX9_sheet_30 rfl (lv_at hl 0 rfl) ?_
        refine g_get (v := .int (M8 21 0 11)) hx hb hts hown hK hP (hLm.h (f := 21) (by decide)) (gC21 _ _ _ _) gcl9 iX9_sheet_X9 11 (by decide) mX9_sheet_1 rfl rfl dX9_sheet_31 ?_
        refine lv_icmp_lt (tgt := 42) hx hb dX9_sheet_34 (by decide) (fun c9 => ?_) (fun c9 => ?_)
        · have hw := hw.1 c9
          refine lv_iload_n hx hb dX9_sheet_42 rfl (lv_at hl 3 rfl) ?_
          refine lv_if_ne (tgt := 55) hx hb dX9_sheet_43 (by decide) (fun c10 => ?_) (fun c10 => ?_)
          · have hw := hw.2 c10
            refine lv_aload_n hx hb dX9_sheet_55 rfl (lv_at hl 0 rfl) ?_
            refine g_get (v := .ref (ad 22 7)) hx hb hts hown hK hP (hLm.h (f := 21) (by decide)) (gC21 _ _ _ _) gcl9 iX9_sheet_X9 10 (by decide) mX9_sheet_3 rfl rfl dX9_sheet_56 ?_
            refine lv_iload_n hx hb dX9_sheet_59 rfl (lv_at hl 2 rfl) ?_
            have hb11 := hw.1
            have hw := hw.2
            refine g_iald (n := 10) hx hb hK hP (hLm.h (f := 22) (by decide)) rfl hb11 dX9_sheet_60 ?_
            exact g_iret hx hb hr hlocks hw hP hS dX9_sheet_61
          · have hw := hw.1 c10
            refine lv_aload_n hx hb dX9_sheet_46 rfl (lv_at hl 0 rfl) ?_
            refine g_get (v := .ref (ad 22 6)) hx hb hts hown hK hP (hLm.h (f := 21) (by decide)) (gC21 _ _ _ _) gcl9 iX9_sheet_X9 9 (by decide) mX9_sheet_2 rfl rfl dX9_sheet_47 ?_
            refine lv_iload_n hx hb dX9_sheet_50 rfl (lv_at hl 2 rfl) ?_
            have hb12 := hw.1
            have hw := hw.2
            refine g_iald (n := 10) hx hb hK hP (hLm.h (f := 22) (by decide)) rfl hb12 dX9_sheet_51 ?_
            refine lv_goto (tgt := 61) hx hb dX9_sheet_52 (by decide) ?_
            exact g_iret hx hb hr hlocks hw hP hS dX9_sheet_61
        · have hw := hw.2 c9
          refine lv_bipush (v := (-5 : Int32)) hx hb dX9_sheet_37 (by decide) ?_
          refine lv_goto (tgt := 61) hx hb dX9_sheet_39 (by decide) ?_
          exact g_iret hx hb hr hlocks hw hP hS dX9_sheet_61
      · have hw := hw.1 c7
        refine lv_bipush (v := (-2 : Int32)) hx hb dX9_sheet_21 (by decide) ?_
        exact g_iret hx hb hr hlocks hw hP hS dX9_sheet_23
abbrev rmX9_coveredIn : Room := { frames := 0, cells := 0, slots := 0, locals := 0 }
theorem eX9_coveredIn : yX9_coveredIn.cls = RX9 ∧ yX9_coveredIn.cls ≠ "java/lang/invoke/MethodHandle" ∧ yX9_coveredIn.cls ≠ "java/lang/invoke/VarHandle" ∧ (parseMethodDescriptor yX9_coveredIn.desc).map (fun d => d.parameters.length) = some 2 := by decide +kernel
theorem iX9_coveredIn_X9 : ∀ w ∈ wsX90, w ∈ wsX9_coveredIn := fun _ h => List.mem_cons_of_mem _ (List.mem_append_right _ (h))
theorem mX9_coveredIn_1 : Cond.fieldLink RX9 34 "PracticeSheetsModel" "isCovered" "[I" ∈ wsX9_coveredIn := List.mem_of_getElem? (i := 1) rfl
set_option maxHeartbeats 4000000 in
set_option maxRecDepth 100000 in
theorem qX9_coveredIn (l : Launch) (D : va_G) (E : Nat → ClassId) (ad : Nat → Nat → Nat) (L : List (Nat × Nat)) (A : Nat → Prop) (hF : gF E ad L A) (hLm : gLm L) (M0 : gW) (a1 : Int32) (a2 : Int32)  (K : Int32 → gW → Prop) (hw : wX9_coveredIn M0 a1 a2 K) : Met l yX9_coveredIn wsX9_coveredIn rmX9_coveredIn (va_Pc [.ref (ad 21 0), .int a1, .int a2] (gPre D E ad L M0)) (gQi D E ad L A K) 0 0 A := by
  refine Met.ofW (cc := cX9_coveredIn) (maxL := 5) (ret := (some .int)) (by decide) rfl ?_
  intro p e s m args below meth c s₁ B hml hv
  obtain ⟨rfl, hP, hK, hN⟩ := hv
  have hx := B.exec
  have hb := B.bytes
  have hr := B.returns
  have hts := atoms_spec (ws := wsX9_coveredIn) B.pre
  have hown : s.vm.findClass RX9 = some m.cls := findClass_of_methodNamed B.named
  have hlocks := B.notSynchronized
  have S : CallFix p m c cX9_coveredIn 5 s ([.ref (ad 21 0), .int a1, .int a2] : List Value).toArray wsX9_coveredIn RX9 := ⟨hx, hb, hml, hown, hts⟩
  have hS : va_S A s.heap s.heap [] := va_S.rf
  have hl := lv_entry ([.ref (ad 21 0), .int a1, .int a2]) (n := 5) (Nat.le_of_ble_eq_true rfl)
  rw [lg_entry_eq]
  generalize (lg_sl ([.ref (ad 21 0), .int a1, .int a2]) ++ List.replicate (5 - (lg_sl ([.ref (ad 21 0), .int a1, .int a2])).length) Slot.unset).toArray = ls at hl ⊢
  have hl : lv_has ls 5 [(0, .ref (ad 21 0)), (1, .int a1), (2, .int a2)] := hl
  refine lv_iconst (v := (0 : Int32)) hx hb dX9_coveredIn_0 (by decide) ?_
  refine lv_istore_n (lv' := [(3, .int (0 : Int32)), (0, .ref (ad 21 0)), (1, .int a1), (2, .int a2)]) hx hb dX9_coveredIn_1 rfl hl (by decide) rfl (fun ls hl => ?_)
  refine lv_iload_n hx hb dX9_coveredIn_2 rfl (lv_at hl 2 rfl) ?_
  refine lv_istore (lv' := [(4, .int a1), (3, .int (0 : Int32)), (0, .ref (ad 21 0)), (1, .int a1), (2, .int a2)]) hx hb dX9_coveredIn_3 hl (by decide) rfl (fun ls hl => ?_)
  obtain ⟨n10, hw⟩ := hw
  have hxX9_coveredIn_L5_0 : ∀ (M7 : gW) (x3_8 : Int32) (x4_9 : Int32) (H : Heap) (locs : List Loc) (ls : Array Slot), (K x3_8 M7) → va_P D vwCl (gL E ad L M7) H → va_S A s.heap H locs → lv_has ls 5 [(0, .ref (ad 21 0)), (1, .int a1), (2, .int a2), (3, .int x3_8), (4, .int x4_9)] → W p l e (headSpec wsX9_coveredIn rmX9_coveredIn).room s m (([.ref (ad 21 0), .int a1, .int a2] : List Value).toArray) below meth c H locs 0 0 (MQ below (gQi D E ad L A K) ([.ref (ad 21 0), .int a1, .int a2] : List Value).toArray s 0 0 A) (F0 m 27 ls []) := by
    intro M7 x3_8 x4_9 H locs ls hw hP hS hl
    refine lv_iload_n hx hb dX9_coveredIn_27 rfl (lv_at hl 3 rfl) ?_
    exact g_iret hx hb hr hlocks hw hP hS dX9_coveredIn_28
  have hlX9_coveredIn_L5 : ∀ (n1 : Nat) (M2 : gW) (x3_3 : Int32) (x4_4 : Int32) (H : Heap) (locs : List Loc) (ls : Array Slot), wX9_coveredIn_L5 a2 (fun M7 x3_8 x4_9 => (K x3_8 M7)) n1 M2 x3_3 x4_4 → va_P D vwCl (gL E ad L M2) H → va_S A s.heap H locs → lv_has ls 5 [(0, .ref (ad 21 0)), (1, .int a1), (2, .int a2), (3, .int x3_3), (4, .int x4_4)] → W p l e (headSpec wsX9_coveredIn rmX9_coveredIn).room s m (([.ref (ad 21 0), .int a1, .int a2] : List Value).toArray) below meth c H locs 0 0 (MQ below (gQi D E ad L A K) ([.ref (ad 21 0), .int a1, .int a2] : List Value).toArray s 0 0 A) (F0 m 5 ls []) := by
    intro n1
    induction n1 with
    | zero => intro M2 x3_3 x4_4 H locs ls hw; exact False.elim hw
    | succ n1 ihn1 =>
      intro M2 x3_3 x4_4 H locs ls hw hP hS hl
      refine lv_iload hx hb dX9_coveredIn_5 (lv_at hl 4 rfl) ?_
      refine lv_iload_n hx hb dX9_coveredIn_7 rfl (lv_at hl 2 rfl) ?_
      refine lv_icmp_ge (tgt := 27) hx hb dX9_coveredIn_8 (by decide) (fun c5 => ?_) (fun c5 => ?_)
      · have hw := hw.1 c5
        exact hxX9_coveredIn_L5_0 _ _ _ _ _ _ hw hP hS (lv_sub hl [0, 1, 2, 3, 4] rfl)
      · have hw := hw.2 c5
        refine lv_iload_n hx hb dX9_coveredIn_11 rfl (lv_at hl 3 rfl) ?_
        refine lv_aload_n hx hb dX9_coveredIn_12 rfl (lv_at hl 0 rfl) ?_
        refine g_get (v := .ref (ad 22 8)) hx hb hts hown hK hP (hLm.h (f := 21) (by decide)) (gC21 _ _ _ _) gcl9 iX9_coveredIn_X9 12 (by decide) mX9_coveredIn_1 rfl rfl dX9_coveredIn_13 ?_
        refine lv_iload hx hb dX9_coveredIn_16 (lv_at hl 4 rfl) ?_
        have hb6 := hw.1
        have hw := hw.2
        refine g_iald (n := 702) hx hb hK hP (hLm.h (f := 22) (by decide)) rfl hb6 dX9_coveredIn_18 ?_
        refine lv_iadd hx hb dX9_coveredIn_19 ?_
        refine lv_istore_n (lv' := [(3, .int (x3_3 + (M2 22 8 x4_4.toNatClampNeg))), (0, .ref (ad 21 0)), (1, .int a1), (2, .int a2), (4, .int x4_4)]) hx hb dX9_coveredIn_20 rfl hl (by decide) rfl (fun ls hl => ?_)
        refine lv_iinc (v := (x4_4 + (1 : Int32))) (lv' := [(4, .int (x4_4 + (1 : Int32))), (3, .int (x3_3 + (M2 22 8 x4_4.toNatClampNeg))), (0, .ref (ad 21 0)), (1, .int a1), (2, .int a2)]) hx hb dX9_coveredIn_21 hl (k := 4) rfl rfl (by decide) rfl (fun ls hl => ?_)
        refine lv_goto (tgt := 5) hx hb dX9_coveredIn_24 (by decide) ?_
        exact ihn1 _ _ _ _ _ _ hw hP hS (lv_sub hl [2, 3, 4, 1, 0] rfl)
  exact hlX9_coveredIn_L5 n10 _ _ _ _ _ _ hw hP hS (lv_sub hl [2, 3, 4, 1, 0] rfl)
abbrev rmX9_coveredNeeds : Room := { frames := 1, cells := 0, slots := 0, locals := 21 }
theorem eX9_coveredNeeds : yX9_coveredNeeds.cls = RX9 ∧ yX9_coveredNeeds.cls ≠ "java/lang/invoke/MethodHandle" ∧ yX9_coveredNeeds.cls ≠ "java/lang/invoke/VarHandle" ∧ (parseMethodDescriptor yX9_coveredNeeds.desc).map (fun d => d.parameters.length) = some 0 := by decide +kernel
theorem iX9_coveredNeeds_X9 : ∀ w ∈ wsX90, w ∈ wsX9_coveredNeeds := fun _ h => List.mem_cons_of_mem _ (List.mem_append_right _ (h))
theorem mX9_coveredNeeds_1 : Cond.fieldLink RX9 34 "PracticeSheetsModel" "isCovered" "[I" ∈ wsX9_coveredNeeds := List.mem_of_getElem? (i := 1) rfl
set_option maxHeartbeats 4000000 in
set_option maxRecDepth 100000 in
theorem qX9_coveredNeeds (l : Launch) (D : va_G) (E : Nat → ClassId) (ad : Nat → Nat → Nat) (L : List (Nat × Nat)) (A : Nat → Prop) (hF : gF E ad L A) (hLm : gLm L) (M0 : gW)  (K : Int32 → gW → Prop) (hw : wX9_coveredNeeds M0 K) : Met l yX9_coveredNeeds wsX9_coveredNeeds rmX9_coveredNeeds (va_Pc [.ref (ad 21 0)] (gPre D E ad L M0)) (gQi D E ad L A K) 0 0 A := by
  refine Met.ofW (cc := cX9_coveredNeeds) (maxL := 3) (ret := (some .int)) (by decide) rfl ?_
  intro p e s m args below meth c s₁ B hml hv
  obtain ⟨rfl, hP, hK, hN⟩ := hv
  have hx := B.exec
  have hb := B.bytes
  have hr := B.returns
  have hts := atoms_spec (ws := wsX9_coveredNeeds) B.pre
  have hown : s.vm.findClass RX9 = some m.cls := findClass_of_methodNamed B.named
  have hlocks := B.notSynchronized
  have S : CallFix p m c cX9_coveredNeeds 3 s ([.ref (ad 21 0)] : List Value).toArray wsX9_coveredNeeds RX9 := ⟨hx, hb, hml, hown, hts⟩
  have hS : va_S A s.heap s.heap [] := va_S.rf
  have hl := lv_entry ([.ref (ad 21 0)]) (n := 3) (Nat.le_of_ble_eq_true rfl)
  rw [lg_entry_eq]
  generalize (lg_sl ([.ref (ad 21 0)]) ++ List.replicate (3 - (lg_sl ([.ref (ad 21 0)])).length) Slot.unset).toArray = ls at hl ⊢
  have hl : lv_has ls 3 [(0, .ref (ad 21 0))] := hl
  refine lv_iconst (v := (0 : Int32)) hx hb dX9_coveredNeeds_0 (by decide) ?_
  refine lv_istore_n (lv' := [(1, .int (0 : Int32)), (0, .ref (ad 21 0))]) hx hb dX9_coveredNeeds_1 rfl hl (by decide) rfl (fun ls hl => ?_)
  refine lv_iconst (v := (0 : Int32)) hx hb dX9_coveredNeeds_2 (by decide) ?_
  refine lv_istore_n (lv' := [(2, .int (0 : Int32)), (1, .int (0 : Int32)), (0, .ref (ad 21 0))]) hx hb dX9_coveredNeeds_3 rfl hl (by decide) rfl (fun ls hl => ?_)
  obtain ⟨n12, hw⟩ := hw
  have hxX9_coveredNeeds_L4_0 : ∀ (M9 : gW) (x1_10 : Int32) (x2_11 : Int32) (H : Heap) (locs : List Loc) (ls : Array Slot), (K x1_10 M9) → va_P D vwCl (gL E ad L M9) H → va_S A s.heap H locs → lv_has ls 3 [(0, .ref (ad 21 0)), (1, .int x1_10), (2, .int x2_11)] → W p l e (headSpec wsX9_coveredNeeds rmX9_coveredNeeds).room s m (([.ref (ad 21 0)] : List Value).toArray) below meth c H locs 0 0 (MQ below (gQi D E ad L A K) ([.ref (ad 21 0)] : List Value).toArray s 0 0 A) (F0 m 32 ls []) := by
    intro M9 x1_10 x2_11 H locs ls hw hP hS hl
    refine lv_iload_n hx hb dX9_coveredNeeds_32 rfl (lv_at hl 1 rfl) ?_
    exact g_iret hx hb hr hlocks hw hP hS dX9_coveredNeeds_33
  have hlX9_coveredNeeds_L4 : ∀ (n1 : Nat) (M2 : gW) (x1_3 : Int32) (x2_4 : Int32) (H : Heap) (locs : List Loc) (ls : Array Slot), wX9_coveredNeeds_L4 (fun M9 x1_10 x2_11 => (K x1_10 M9)) n1 M2 x1_3 x2_4 → va_P D vwCl (gL E ad L M2) H → va_S A s.heap H locs → lv_has ls 3 [(0, .ref (ad 21 0)), (1, .int x1_3), (2, .int x2_4)] → W p l e (headSpec wsX9_coveredNeeds rmX9_coveredNeeds).room s m (([.ref (ad 21 0)] : List Value).toArray) below meth c H locs 0 0 (MQ below (gQi D E ad L A K) ([.ref (ad 21 0)] : List Value).toArray s 0 0 A) (F0 m 4 ls []) := by
    intro n1
    induction n1 with
    | zero => intro M2 x1_3 x2_4 H locs ls hw; exact False.elim hw
    | succ n1 ihn1 =>
      intro M2 x1_3 x2_4 H locs ls hw hP hS hl
      refine lv_iload_n hx hb dX9_coveredNeeds_4 rfl (lv_at hl 2 rfl) ?_
      refine lv_sipush (v := (702 : Int32)) hx hb dX9_coveredNeeds_5 (by decide) ?_
      refine lv_icmp_ge (tgt := 32) hx hb dX9_coveredNeeds_8 (by decide) (fun c5 => ?_) (fun c5 => ?_)
      · have hw := hw.1 c5
        exact hxX9_coveredNeeds_L4_0 _ _ _ _ _ _ hw hP hS (lv_sub hl [0, 1, 2] rfl)
      · have hw := hw.2 c5
        refine lv_iload_n hx hb dX9_coveredNeeds_11 rfl (lv_at hl 1 rfl) ?_
        refine lv_aload_n hx hb dX9_coveredNeeds_12 rfl (lv_at hl 0 rfl) ?_
        refine g_get (v := .ref (ad 22 8)) hx hb hts hown hK hP (hLm.h (f := 21) (by decide)) (gC21 _ _ _ _) gcl9 iX9_coveredNeeds_X9 12 (by decide) mX9_coveredNeeds_1 rfl rfl dX9_coveredNeeds_13 ?_
        refine lv_iload_n hx hb dX9_coveredNeeds_16 rfl (lv_at hl 2 rfl) ?_
        have hb6 := hw.1
        have hw := hw.2
        refine g_iald (n := 702) hx hb hK hP (hLm.h (f := 22) (by decide)) rfl hb6 dX9_coveredNeeds_17 ?_
        refine lv_aload_n hx hb dX9_coveredNeeds_18 rfl (lv_at hl 0 rfl) ?_
        refine lv_iload_n hx hb dX9_coveredNeeds_19 rfl (lv_at hl 2 rfl) ?_
        refine g_Vi (As := [.int x2_4]) (rest := [.int (M2 22 8 x2_4.toNatClampNeg), .int x1_3]) S hK hN hP hS (qX9_needOf l D E ad L A hF hLm M2 x2_4  _ hw) (cwV 1 hts gX9_coveredNeeds_X9_needOf rfl rfl rfl eX9_needOf ⟨Nat.le_of_ble_eq_true rfl, Nat.le_of_ble_eq_true rfl⟩) (hLm.h (f := 21) (by decide)) (gC21 _ _ _ _) gcl9 rfl rfl rfl hl.1 (Nat.le_of_ble_eq_true rfl) ⟨Nat.zero_le _, Nat.zero_le _⟩ dX9_coveredNeeds_20 (fun r8 M7 H locs hw hP hS => ?_)
        refine lv_imul hx hb dX9_coveredNeeds_23 ?_
        refine lv_iadd hx hb dX9_coveredNeeds_24 ?_
        refine lv_istore_n (lv' := [(1, .int (x1_3 + ((M2 22 8 x2_4.toNatClampNeg) * r8))), (0, .ref (ad 21 0)), (2, .int x2_4)]) hx hb dX9_coveredNeeds_25 rfl hl (by decide) rfl (fun ls hl => ?_)
        refine lv_iinc (v := (x2_4 + (1 : Int32))) (lv' := [(2, .int (x2_4 + (1 : Int32))), (1, .int (x1_3 + ((M2 22 8 x2_4.toNatClampNeg) * r8))), (0, .ref (ad 21 0))]) hx hb dX9_coveredNeeds_26 hl (k := 2) rfl rfl (by decide) rfl (fun ls hl => ?_)
        refine lv_goto (tgt := 4) hx hb dX9_coveredNeeds_29 (by decide) ?_
        exact ihn1 _ _ _ _ _ _ hw hP hS (lv_sub hl [2, 1, 0] rfl)
  exact hlX9_coveredNeeds_L4 n12 _ _ _ _ _ _ hw hP hS (lv_sub hl [2, 1, 0] rfl)
abbrev rmX9_gains : Room := { frames := 0, cells := 0, slots := 0, locals := 0 }
theorem eX9_gains : yX9_gains.cls = RX9 ∧ yX9_gains.cls ≠ "java/lang/invoke/MethodHandle" ∧ yX9_gains.cls ≠ "java/lang/invoke/VarHandle" ∧ (parseMethodDescriptor yX9_gains.desc).map (fun d => d.parameters.length) = some 0 := by decide +kernel
theorem iX9_gains_X9 : ∀ w ∈ wsX90, w ∈ wsX9_gains := fun _ h => List.mem_cons_of_mem _ (List.mem_append_right _ (h))
theorem mX9_gains_1 : Cond.fieldLink RX9 93 "PracticeSheetsModel" "lines" "I" ∈ wsX9_gains := List.mem_of_getElem? (i := 1) rfl
theorem mX9_gains_2 : Cond.fieldLink RX9 31 "PracticeSheetsModel" "lineGain" "[I" ∈ wsX9_gains := List.mem_of_getElem? (i := 2) rfl
set_option maxHeartbeats 4000000 in
set_option maxRecDepth 100000 in
theorem qX9_gains (l : Launch) (D : va_G) (E : Nat → ClassId) (ad : Nat → Nat → Nat) (L : List (Nat × Nat)) (A : Nat → Prop) (hF : gF E ad L A) (hLm : gLm L) (M0 : gW)  (K : Int32 → gW → Prop) (hw : wX9_gains M0 K) : Met l yX9_gains wsX9_gains rmX9_gains (va_Pc [.ref (ad 21 0)] (gPre D E ad L M0)) (gQi D E ad L A K) 0 0 A := by
  refine Met.ofW (cc := cX9_gains) (maxL := 3) (ret := (some .int)) (by decide) rfl ?_
  intro p e s m args below meth c s₁ B hml hv
  obtain ⟨rfl, hP, hK, hN⟩ := hv
  have hx := B.exec
  have hb := B.bytes
  have hr := B.returns
  have hts := atoms_spec (ws := wsX9_gains) B.pre
  have hown : s.vm.findClass RX9 = some m.cls := findClass_of_methodNamed B.named
  have hlocks := B.notSynchronized
  have S : CallFix p m c cX9_gains 3 s ([.ref (ad 21 0)] : List Value).toArray wsX9_gains RX9 := ⟨hx, hb, hml, hown, hts⟩
  have hS : va_S A s.heap s.heap [] := va_S.rf
  have hl := lv_entry ([.ref (ad 21 0)]) (n := 3) (Nat.le_of_ble_eq_true rfl)
  rw [lg_entry_eq]
  generalize (lg_sl ([.ref (ad 21 0)]) ++ List.replicate (3 - (lg_sl ([.ref (ad 21 0)])).length) Slot.unset).toArray = ls at hl ⊢
  have hl : lv_has ls 3 [(0, .ref (ad 21 0))] := hl
  refine lv_iconst (v := (0 : Int32)) hx hb dX9_gains_0 (by decide) ?_
  refine lv_istore_n (lv' := [(1, .int (0 : Int32)), (0, .ref (ad 21 0))]) hx hb dX9_gains_1 rfl hl (by decide) rfl (fun ls hl => ?_)
  refine lv_iconst (v := (0 : Int32)) hx hb dX9_gains_2 (by decide) ?_
  refine lv_istore_n (lv' := [(2, .int (0 : Int32)), (1, .int (0 : Int32)), (0, .ref (ad 21 0))]) hx hb dX9_gains_3 rfl hl (by decide) rfl (fun ls hl => ?_)
  obtain ⟨n10, hw⟩ := hw
  have hxX9_gains_L4_0 : ∀ (M7 : gW) (x1_8 : Int32) (x2_9 : Int32) (H : Heap) (locs : List Loc) (ls : Array Slot), (K x1_8 M7) → va_P D vwCl (gL E ad L M7) H → va_S A s.heap H locs → lv_has ls 3 [(0, .ref (ad 21 0)), (1, .int x1_8), (2, .int x2_9)] → W p l e (headSpec wsX9_gains rmX9_gains).room s m (([.ref (ad 21 0)] : List Value).toArray) below meth c H locs 0 0 (MQ below (gQi D E ad L A K) ([.ref (ad 21 0)] : List Value).toArray s 0 0 A) (F0 m 27 ls []) := by
    intro M7 x1_8 x2_9 H locs ls hw hP hS hl
    refine lv_iload_n hx hb dX9_gains_27 rfl (lv_at hl 1 rfl) ?_
    exact g_iret hx hb hr hlocks hw hP hS dX9_gains_28
  have hlX9_gains_L4 : ∀ (n1 : Nat) (M2 : gW) (x1_3 : Int32) (x2_4 : Int32) (H : Heap) (locs : List Loc) (ls : Array Slot), wX9_gains_L4 (fun M7 x1_8 x2_9 => (K x1_8 M7)) n1 M2 x1_3 x2_4 → va_P D vwCl (gL E ad L M2) H → va_S A s.heap H locs → lv_has ls 3 [(0, .ref (ad 21 0)), (1, .int x1_3), (2, .int x2_4)] → W p l e (headSpec wsX9_gains rmX9_gains).room s m (([.ref (ad 21 0)] : List Value).toArray) below meth c H locs 0 0 (MQ below (gQi D E ad L A K) ([.ref (ad 21 0)] : List Value).toArray s 0 0 A) (F0 m 4 ls []) := by
    intro n1
    induction n1 with
    | zero => intro M2 x1_3 x2_4 H locs ls hw; exact False.elim hw
    | succ n1 ihn1 =>
      intro M2 x1_3 x2_4 H locs ls hw hP hS hl
      refine lv_iload_n hx hb dX9_gains_4 rfl (lv_at hl 2 rfl) ?_
      refine lv_aload_n hx hb dX9_gains_5 rfl (lv_at hl 0 rfl) ?_
      refine g_get (v := .int (M2 21 0 11)) hx hb hts hown hK hP (hLm.h (f := 21) (by decide)) (gC21 _ _ _ _) gcl9 iX9_gains_X9 11 (by decide) mX9_gains_1 rfl rfl dX9_gains_6 ?_
      refine lv_icmp_ge (tgt := 27) hx hb dX9_gains_9 (by decide) (fun c5 => ?_) (fun c5 => ?_)
      · have hw := hw.1 c5
        exact hxX9_gains_L4_0 _ _ _ _ _ _ hw hP hS (lv_sub hl [0, 1, 2] rfl)
      · have hw := hw.2 c5
        refine lv_iload_n hx hb dX9_gains_12 rfl (lv_at hl 1 rfl) ?_
        refine lv_aload_n hx hb dX9_gains_13 rfl (lv_at hl 0 rfl) ?_
        refine g_get (v := .ref (ad 22 7)) hx hb hts hown hK hP (hLm.h (f := 21) (by decide)) (gC21 _ _ _ _) gcl9 iX9_gains_X9 10 (by decide) mX9_gains_2 rfl rfl dX9_gains_14 ?_
        refine lv_iload_n hx hb dX9_gains_17 rfl (lv_at hl 2 rfl) ?_
        have hb6 := hw.1
        have hw := hw.2
        refine g_iald (n := 10) hx hb hK hP (hLm.h (f := 22) (by decide)) rfl hb6 dX9_gains_18 ?_
        refine lv_iadd hx hb dX9_gains_19 ?_
        refine lv_istore_n (lv' := [(1, .int (x1_3 + (M2 22 7 x2_4.toNatClampNeg))), (0, .ref (ad 21 0)), (2, .int x2_4)]) hx hb dX9_gains_20 rfl hl (by decide) rfl (fun ls hl => ?_)
        refine lv_iinc (v := (x2_4 + (1 : Int32))) (lv' := [(2, .int (x2_4 + (1 : Int32))), (1, .int (x1_3 + (M2 22 7 x2_4.toNatClampNeg))), (0, .ref (ad 21 0))]) hx hb dX9_gains_21 hl (k := 2) rfl rfl (by decide) rfl (fun ls hl => ?_)
        refine lv_goto (tgt := 4) hx hb dX9_gains_24 (by decide) ?_
        exact ihn1 _ _ _ _ _ _ hw hP hS (lv_sub hl [2, 1, 0] rfl)
  exact hlX9_gains_L4 n10 _ _ _ _ _ _ hw hP hS (lv_sub hl [2, 1, 0] rfl)
abbrev rmX9_covers : Room := { frames := 5, cells := 0, slots := 0, locals := 117 }
theorem eX9_covers : yX9_covers.cls = RX9 ∧ yX9_covers.cls ≠ "java/lang/invoke/MethodHandle" ∧ yX9_covers.cls ≠ "java/lang/invoke/VarHandle" ∧ (parseMethodDescriptor yX9_covers.desc).map (fun d => d.parameters.length) = some 2 := by decide +kernel
theorem mX9_covers_1 : Cond.constantLong RX9 185 (4) ∈ wsX9_covers := List.mem_of_getElem? (i := 1) rfl
theorem iX9_covers_X9 : ∀ w ∈ wsX90, w ∈ wsX9_covers := fun _ h => List.mem_cons_of_mem _ (List.mem_append_right _ (h))
theorem mX9_covers_2 : Cond.fieldLink RX9 93 "PracticeSheetsModel" "lines" "I" ∈ wsX9_covers := List.mem_of_getElem? (i := 2) rfl
set_option maxHeartbeats 4000000 in
set_option maxRecDepth 100000 in
theorem qX9_covers (l : Launch) (D : va_G) (E : Nat → ClassId) (ad : Nat → Nat → Nat) (L : List (Nat × Nat)) (A : Nat → Prop) (hF : gF E ad L A) (hLm : gLm L) (M0 : gW) (a1 : Int32) (a2 : Int32)  (K : Int32 → gW → Prop) (hw : wX9_covers M0 a1 a2 K) : Met l yX9_covers wsX9_covers rmX9_covers (va_Pc [.ref (ad 21 0), .int a1, .int a2] (gPre D E ad L M0)) (gQi D E ad L A K) 0 0 A := by
  refine Met.ofW (cc := cX9_covers) (maxL := 3) (ret := (some .int)) (by decide) rfl ?_
  intro p e s m args below meth c s₁ B hml hv
  obtain ⟨rfl, hP, hK, hN⟩ := hv
  have hx := B.exec
  have hb := B.bytes
  have hr := B.returns
  have hts := atoms_spec (ws := wsX9_covers) B.pre
  have hown : s.vm.findClass RX9 = some m.cls := findClass_of_methodNamed B.named
  have hlocks := B.notSynchronized
  have S : CallFix p m c cX9_covers 3 s ([.ref (ad 21 0), .int a1, .int a2] : List Value).toArray wsX9_covers RX9 := ⟨hx, hb, hml, hown, hts⟩
  have hS : va_S A s.heap s.heap [] := va_S.rf
  have hl := lv_entry ([.ref (ad 21 0), .int a1, .int a2]) (n := 3) (Nat.le_of_ble_eq_true rfl)
  rw [lg_entry_eq]
  generalize (lg_sl ([.ref (ad 21 0), .int a1, .int a2]) ++ List.replicate (3 - (lg_sl ([.ref (ad 21 0), .int a1, .int a2])).length) Slot.unset).toArray = ls at hl ⊢
  have hl : lv_has ls 3 [(0, .ref (ad 21 0)), (1, .int a1), (2, .int a2)] := hl
  refine lv_iload_n hx hb dX9_covers_0 rfl (lv_at hl 1 rfl) ?_
  refine g_Si (As := [.int a1]) (rest := []) S hK hN hP hS (qX9_isLines l D E ad L A hF hLm M0 a1  _ hw) (va_cwS 1 hts gX9_covers_X9_isLines rfl rfl rfl eX9_isLines.2 ⟨Nat.le_of_ble_eq_true rfl, Nat.le_of_ble_eq_true rfl⟩) rfl rfl hl.1 (Nat.le_of_ble_eq_true rfl) ⟨Nat.zero_le _, Nat.zero_le _⟩ dX9_covers_1 (fun r2 M1 H locs hw hP hS => ?_)
  refine lv_if_eq (tgt := 19) hx hb dX9_covers_4 (by decide) (fun c3 => ?_) (fun c3 => ?_)
  · have hw := hw.1 c3
    refine lv_bipush (v := (-2 : Int32)) hx hb dX9_covers_19 (by decide) ?_
    exact g_iret hx hb hr hlocks hw hP hS dX9_covers_21
  · have hw := hw.2 c3
    refine lv_iload_n hx hb dX9_covers_7 rfl (lv_at hl 2 rfl) ?_
    refine lv_i2l (v := a2.toInt64) hx hb dX9_covers_8 rfl ?_
    refine lv_lconst (v := (0 : Int64)) hx hb dX9_covers_9 (by decide) ?_
    refine lv_ldc2 (v := (4 : Int64)) hx hb hown (hts _ mX9_covers_1) dX9_covers_10 ?_
    refine g_Si (As := [.long (a2.toInt64), .long (0 : Int64), .long (4 : Int64)]) (rest := []) S hK hN hP hS (qX9_in l D E ad L A hF hLm M1 (a2.toInt64) (0 : Int64) (4 : Int64)  _ hw) (va_cwS 3 hts gX9_covers_X9_in rfl rfl rfl eX9_in.2 ⟨Nat.le_of_ble_eq_true rfl, Nat.le_of_ble_eq_true rfl⟩) rfl rfl hl.1 (Nat.le_of_ble_eq_true rfl) ⟨Nat.zero_le _, Nat.zero_le _⟩ dX9_covers_13 (fun r5 M4 H locs hw hP hS => ?_)
    refine lv_if_ne (tgt := 22) hx hb dX9_covers_16 (by decide) (fun c6 => ?_) (fun c6 => ?_)
    · have hw := hw.2 c6
      refine lv_aload_n hx hb dX9_covers_22 rfl (lv_at hl 0 rfl) ?_
      refine lv_iload_n hx hb dX9_covers_23 rfl (lv_at hl 1 rfl) ?_
      refine g_Vv (As := [.int a1]) (rest := []) S hK hN hP hS (qX9_makesSheet l D E ad L A hF hLm M4 a1  _ hw) (cwV 1 hts gX9_covers_X9_makesSheet rfl rfl rfl eX9_makesSheet ⟨Nat.le_of_ble_eq_true rfl, Nat.le_of_ble_eq_true rfl⟩) (hLm.h (f := 21) (by decide)) (gC21 _ _ _ _) gcl9 rfl rfl rfl hl.1 (Nat.le_of_ble_eq_true rfl) ⟨Nat.zero_le _, Nat.zero_le _⟩ dX9_covers_24 (fun M7 H locs hw hP hS => ?_)
      refine lv_iload_n hx hb dX9_covers_27 rfl (lv_at hl 2 rfl) ?_
      refine lv_if_ne (tgt := 38) hx hb dX9_covers_28 (by decide) (fun c8 => ?_) (fun c8 => ?_)
      · have hw := hw.2 c8
        refine lv_iload_n hx hb dX9_covers_38 rfl (lv_at hl 2 rfl) ?_
        refine lv_iconst (v := (1 : Int32)) hx hb dX9_covers_39 (by decide) ?_
        refine lv_icmp_ne (tgt := 53) hx hb dX9_covers_40 (by decide) (fun c9 => ?_) (fun c9 => ?_)
        · have hw := hw.2 c9
          refine lv_iload_n hx hb dX9_covers_53 rfl (lv_at hl 2 rfl) ?_
          refine lv_iconst (v := (2 : Int32)) hx hb dX9_covers_54 (by decide) ?_
          refine lv_icmp_ne (tgt := 70) hx hb dX9_covers_55 (by decide) (fun c10 => ?_) (fun c10 => ?_)
          · have hw := hw.2 c10
            refine lv_iload_n hx hb dX9_covers_70 rfl (lv_at hl 2 rfl) ?_
            refine lv_iconst (v := (3 : Int32)) hx hb dX9_covers_71 (by decide) ?_
            refine lv_icmp_ne (tgt := 82) hx hb dX9_covers_72 (by decide) (fun c11 => ?_) (fun c11 => ?_)
            · have hw := hw.2 c11
              refine lv_aload_n hx hb dX9_covers_82 rfl (lv_at hl 0 rfl) ?_
              refine g_Vi (As := []) (rest := []) S hK hN hP hS (qX9_gains l D E ad L A hF hLm M7  _ hw) (cwV 0 hts gX9_covers_X9_gains rfl rfl rfl eX9_gains ⟨Nat.le_of_ble_eq_true rfl, Nat.le_of_ble_eq_true rfl⟩) (hLm.h (f := 21) (by decide)) (gC21 _ _ _ _) gcl9 rfl rfl rfl hl.1 (Nat.le_of_ble_eq_true rfl) ⟨Nat.zero_le _, Nat.zero_le _⟩ dX9_covers_83 (fun r13 M12 H locs hw hP hS => ?_)
              exact g_iret hx hb hr hlocks hw hP hS dX9_covers_86
            · have hw := hw.1 c11
              refine lv_aload_n hx hb dX9_covers_75 rfl (lv_at hl 0 rfl) ?_
              refine g_Vi (As := []) (rest := []) S hK hN hP hS (qX9_coveredNeeds l D E ad L A hF hLm M7  _ hw) (cwV 0 hts gX9_covers_X9_coveredNeeds rfl rfl rfl eX9_coveredNeeds ⟨Nat.le_of_ble_eq_true rfl, Nat.le_of_ble_eq_true rfl⟩) (hLm.h (f := 21) (by decide)) (gC21 _ _ _ _) gcl9 rfl rfl rfl hl.1 (Nat.le_of_ble_eq_true rfl) ⟨Nat.zero_le _, Nat.zero_le _⟩ dX9_covers_76 (fun r15 M14 H locs hw hP hS => ?_)
              refine lv_goto (tgt := 86) hx hb dX9_covers_79 (by decide) ?_
              exact g_iret hx hb hr hlocks hw hP hS dX9_covers_86
          · have hw := hw.1 c10
            refine lv_aload_n hx hb dX9_covers_58 rfl (lv_at hl 0 rfl) ?_
            refine lv_bipush (v := (26 : Int32)) hx hb dX9_covers_59 (by decide) ?_
            refine lv_sipush (v := (702 : Int32)) hx hb dX9_covers_61 (by decide) ?_
            refine g_Vi (As := [.int (26 : Int32), .int (702 : Int32)]) (rest := []) S hK hN hP hS (qX9_coveredIn l D E ad L A hF hLm M7 (26 : Int32) (702 : Int32)  _ hw) (cwV 2 hts gX9_covers_X9_coveredIn rfl rfl rfl eX9_coveredIn ⟨Nat.le_of_ble_eq_true rfl, Nat.le_of_ble_eq_true rfl⟩) (hLm.h (f := 21) (by decide)) (gC21 _ _ _ _) gcl9 rfl rfl rfl hl.1 (Nat.le_of_ble_eq_true rfl) ⟨Nat.zero_le _, Nat.zero_le _⟩ dX9_covers_64 (fun r17 M16 H locs hw hP hS => ?_)
            refine lv_goto (tgt := 86) hx hb dX9_covers_67 (by decide) ?_
            exact g_iret hx hb hr hlocks hw hP hS dX9_covers_86
        · have hw := hw.1 c9
          refine lv_aload_n hx hb dX9_covers_43 rfl (lv_at hl 0 rfl) ?_
          refine lv_iconst (v := (0 : Int32)) hx hb dX9_covers_44 (by decide) ?_
          refine lv_bipush (v := (26 : Int32)) hx hb dX9_covers_45 (by decide) ?_
          refine g_Vi (As := [.int (0 : Int32), .int (26 : Int32)]) (rest := []) S hK hN hP hS (qX9_coveredIn l D E ad L A hF hLm M7 (0 : Int32) (26 : Int32)  _ hw) (cwV 2 hts gX9_covers_X9_coveredIn rfl rfl rfl eX9_coveredIn ⟨Nat.le_of_ble_eq_true rfl, Nat.le_of_ble_eq_true rfl⟩) (hLm.h (f := 21) (by decide)) (gC21 _ _ _ _) gcl9 rfl rfl rfl hl.1 (Nat.le_of_ble_eq_true rfl) ⟨Nat.zero_le _, Nat.zero_le _⟩ dX9_covers_47 (fun r19 M18 H locs hw hP hS => ?_)
          refine lv_goto (tgt := 86) hx hb dX9_covers_50 (by decide) ?_
          exact g_iret hx hb hr hlocks hw hP hS dX9_covers_86
      · have hw := hw.1 c8
        refine lv_aload_n hx hb dX9_covers_31 rfl (lv_at hl 0 rfl) ?_
        refine g_get (v := .int (M7 21 0 11)) hx hb hts hown hK hP (hLm.h (f := 21) (by decide)) (gC21 _ _ _ _) gcl9 iX9_covers_X9 11 (by decide) mX9_covers_2 rfl rfl dX9_covers_32 ?_
        refine lv_goto (tgt := 86) hx hb dX9_covers_35 (by decide) ?_
        exact g_iret hx hb hr hlocks hw hP hS dX9_covers_86
    · have hw := hw.1 c6
      refine lv_bipush (v := (-2 : Int32)) hx hb dX9_covers_19 (by decide) ?_
      exact g_iret hx hb hr hlocks hw hP hS dX9_covers_21
abbrev rmX9_worst : Room := { frames := 1, cells := 0, slots := 0, locals := 21 }
theorem eX9_worst : yX9_worst.cls = RX9 ∧ yX9_worst.cls ≠ "java/lang/invoke/MethodHandle" ∧ yX9_worst.cls ≠ "java/lang/invoke/VarHandle" ∧ (parseMethodDescriptor yX9_worst.desc).map (fun d => d.parameters.length) = some 2 := by decide +kernel
set_option maxHeartbeats 4000000 in
set_option maxRecDepth 100000 in
theorem qX9_worst (l : Launch) (D : va_G) (E : Nat → ClassId) (ad : Nat → Nat → Nat) (L : List (Nat × Nat)) (A : Nat → Prop) (hF : gF E ad L A) (hLm : gLm L) (M0 : gW) (a1 : Int32) (a2 : Int32)  (K : Int32 → gW → Prop) (hw : wX9_worst M0 a1 a2 K) : Met l yX9_worst wsX9_worst rmX9_worst (va_Pc [.ref (ad 21 0), .int a1, .int a2] (gPre D E ad L M0)) (gQi D E ad L A K) 0 0 A := by
  refine Met.ofW (cc := cX9_worst) (maxL := 8) (ret := (some .int)) (by decide) rfl ?_
  intro p e s m args below meth c s₁ B hml hv
  obtain ⟨rfl, hP, hK, hN⟩ := hv
  have hx := B.exec
  have hb := B.bytes
  have hr := B.returns
  have hts := atoms_spec (ws := wsX9_worst) B.pre
  have hown : s.vm.findClass RX9 = some m.cls := findClass_of_methodNamed B.named
  have hlocks := B.notSynchronized
  have S : CallFix p m c cX9_worst 8 s ([.ref (ad 21 0), .int a1, .int a2] : List Value).toArray wsX9_worst RX9 := ⟨hx, hb, hml, hown, hts⟩
  have hS : va_S A s.heap s.heap [] := va_S.rf
  have hl := lv_entry ([.ref (ad 21 0), .int a1, .int a2]) (n := 8) (Nat.le_of_ble_eq_true rfl)
  rw [lg_entry_eq]
  generalize (lg_sl ([.ref (ad 21 0), .int a1, .int a2]) ++ List.replicate (8 - (lg_sl ([.ref (ad 21 0), .int a1, .int a2])).length) Slot.unset).toArray = ls at hl ⊢
  have hl : lv_has ls 8 [(0, .ref (ad 21 0)), (1, .int a1), (2, .int a2)] := hl
  refine lv_iload_n hx hb dX9_worst_0 rfl (lv_at hl 2 rfl) ?_
  refine lv_if_ge (tgt := 7) hx hb dX9_worst_1 (by decide) (fun c1 => ?_) (fun c1 => ?_)
  · have hw := hw.1 c1
    refine lv_iload_n hx hb dX9_worst_7 rfl (lv_at hl 1 rfl) ?_
    obtain ⟨J3, eJ3⟩ : ∃ J3 : gW → Int32 → Prop, J3 = (fun M4 z5 => ((fun (J7 : gW → Int32 → Prop) => ((a1 = 0 → (J7 M4 (26 : Int32))) ∧ (¬ (a1 = 0) → (J7 M4 (702 : Int32))))) (fun M8 z9 => (∃ n31 : Nat, wX9_worst_L39 z5 z9 K (fun M28 x5_29 x6_30 => (K (-5 : Int32) M28)) n31 M8 a2 (100 : Int32))))) := ⟨_, rfl⟩
    have hw : (a1 = 0 → (J3 M0 (0 : Int32))) ∧ (¬ (a1 = 0) → (J3 M0 (26 : Int32))) := by rw [eJ3]; exact hw
    have hJ3 : ∀ (M4 : gW) (z5 : Int32) (H : Heap) (locs : List Loc) (ls : Array Slot), J3 M4 z5 → va_P D vwCl (gL E ad L M4) H → va_S A s.heap H locs → lv_has ls 8 [(0, .ref (ad 21 0)), (1, .int a1), (2, .int a2)] → W p l e (headSpec wsX9_worst rmX9_worst).room s m (([.ref (ad 21 0), .int a1, .int a2] : List Value).toArray) below meth c H locs 0 0 (MQ below (gQi D E ad L A K) ([.ref (ad 21 0), .int a1, .int a2] : List Value).toArray s 0 0 A) (F0 m 17 ls [.int z5]) := by
      intro M4 z5 H locs ls hw hP hS hl
      rw [eJ3] at hw
      refine lv_istore_n (lv' := [(3, .int z5), (0, .ref (ad 21 0)), (1, .int a1), (2, .int a2)]) hx hb dX9_worst_17 rfl hl (by decide) rfl (fun ls hl => ?_)
      refine lv_iload_n hx hb dX9_worst_18 rfl (lv_at hl 2 rfl) ?_
      obtain ⟨J7, eJ7⟩ : ∃ J7 : gW → Int32 → Prop, J7 = (fun M8 z9 => (∃ n31 : Nat, wX9_worst_L39 z5 z9 K (fun M28 x5_29 x6_30 => (K (-5 : Int32) M28)) n31 M8 a2 (100 : Int32))) := ⟨_, rfl⟩
      have hw : (a1 = 0 → (J7 M4 (26 : Int32))) ∧ (¬ (a1 = 0) → (J7 M4 (702 : Int32))) := by rw [eJ7]; exact hw
      have hJ7 : ∀ (M8 : gW) (z9 : Int32) (H : Heap) (locs : List Loc) (ls : Array Slot), J7 M8 z9 → va_P D vwCl (gL E ad L M8) H → va_S A s.heap H locs → lv_has ls 8 [(0, .ref (ad 21 0)), (1, .int a1), (2, .int a2), (3, .int z5)] → W p l e (headSpec wsX9_worst rmX9_worst).room s m (([.ref (ad 21 0), .int a1, .int a2] : List Value).toArray) below meth c H locs 0 0 (MQ below (gQi D E ad L A K) ([.ref (ad 21 0), .int a1, .int a2] : List Value).toArray s 0 0 A) (F0 m 30 ls [.int z9]) := by
        intro M8 z9 H locs ls hw hP hS hl
        rw [eJ7] at hw
        refine lv_istore (lv' := [(4, .int z9), (0, .ref (ad 21 0)), (1, .int a1), (2, .int a2), (3, .int z5)]) hx hb dX9_worst_30 hl (by decide) rfl (fun ls hl => ?_)
        refine lv_iload_n hx hb dX9_worst_32 rfl (lv_at hl 3 rfl) ?_
        refine lv_istore (lv' := [(5, .int a2), (4, .int z9), (0, .ref (ad 21 0)), (1, .int a1), (2, .int a2), (3, .int z5)]) hx hb dX9_worst_33 hl (by decide) rfl (fun ls hl => ?_)
        refine lv_bipush (v := (100 : Int32)) hx hb dX9_worst_35 (by decide) ?_
        refine lv_istore (lv' := [(6, .int (100 : Int32)), (5, .int a2), (4, .int z9), (0, .ref (ad 21 0)), (1, .int a1), (2, .int a2), (3, .int z5)]) hx hb dX9_worst_37 hl (by decide) rfl (fun ls hl => ?_)
        obtain ⟨n31, hw⟩ := hw
        have hxX9_worst_L39_0 : ∀ (M28 : gW) (x5_29 : Int32) (x6_30 : Int32) (H : Heap) (locs : List Loc) (ls : Array Slot), (K (-5 : Int32) M28) → va_P D vwCl (gL E ad L M28) H → va_S A s.heap H locs → lv_has ls 8 [(0, .ref (ad 21 0)), (1, .int a1), (2, .int a2), (3, .int z5), (4, .int z9), (5, .int x5_29), (6, .int x6_30)] → W p l e (headSpec wsX9_worst rmX9_worst).room s m (([.ref (ad 21 0), .int a1, .int a2] : List Value).toArray) below meth c H locs 0 0 (MQ below (gQi D E ad L A K) ([.ref (ad 21 0), .int a1, .int a2] : List Value).toArray s 0 0 A) (F0 m 90 ls []) := by
          intro M28 x5_29 x6_30 H locs ls hw hP hS hl
          refine lv_bipush (v := (-5 : Int32)) hx hb dX9_worst_90 (by decide) ?_
          exact g_iret hx hb hr hlocks hw hP hS dX9_worst_92
        have hlX9_worst_L39 : ∀ (n10 : Nat) (M11 : gW) (x5_12 : Int32) (x6_13 : Int32) (H : Heap) (locs : List Loc) (ls : Array Slot), wX9_worst_L39 z5 z9 K (fun M28 x5_29 x6_30 => (K (-5 : Int32) M28)) n10 M11 x5_12 x6_13 → va_P D vwCl (gL E ad L M11) H → va_S A s.heap H locs → lv_has ls 8 [(0, .ref (ad 21 0)), (1, .int a1), (2, .int a2), (3, .int z5), (4, .int z9), (5, .int x5_12), (6, .int x6_13)] → W p l e (headSpec wsX9_worst rmX9_worst).room s m (([.ref (ad 21 0), .int a1, .int a2] : List Value).toArray) below meth c H locs 0 0 (MQ below (gQi D E ad L A K) ([.ref (ad 21 0), .int a1, .int a2] : List Value).toArray s 0 0 A) (F0 m 39 ls []) := by
          intro n10
          induction n10 with
          | zero => intro M11 x5_12 x6_13 H locs ls hw; exact False.elim hw
          | succ n10 ihn10 =>
            intro M11 x5_12 x6_13 H locs ls hw hP hS hl
            refine lv_iload hx hb dX9_worst_39 (lv_at hl 6 rfl) ?_
            refine lv_if_le (tgt := 90) hx hb dX9_worst_41 (by decide) (fun c14 => ?_) (fun c14 => ?_)
            · have hw := hw.1 c14
              exact hxX9_worst_L39_0 _ _ _ _ _ _ hw hP hS (lv_sub hl [0, 1, 2, 3, 4, 5, 6] rfl)
            · have hw := hw.2 c14
              refine lv_iload_n hx hb dX9_worst_44 rfl (lv_at hl 3 rfl) ?_
              refine lv_istore (lv' := [(7, .int z5), (0, .ref (ad 21 0)), (1, .int a1), (2, .int a2), (3, .int z5), (4, .int z9), (5, .int x5_12), (6, .int x6_13)]) hx hb dX9_worst_45 hl (by decide) rfl (fun ls hl => ?_)
              obtain ⟨n27, hw⟩ := hw
              have hxX9_worst_L47_0 : ∀ (M24 : gW) (x5_25 : Int32) (x7_26 : Int32) (H : Heap) (locs : List Loc) (ls : Array Slot), (wX9_worst_L39 z5 z9 K (fun M28 x5_29 x6_30 => (K (-5 : Int32) M28)) n10 M24 x5_25 (x6_13 + (-1 : Int32))) → va_P D vwCl (gL E ad L M24) H → va_S A s.heap H locs → lv_has ls 8 [(0, .ref (ad 21 0)), (1, .int a1), (2, .int a2), (3, .int z5), (4, .int z9), (5, .int x5_25), (6, .int x6_13), (7, .int x7_26)] → W p l e (headSpec wsX9_worst rmX9_worst).room s m (([.ref (ad 21 0), .int a1, .int a2] : List Value).toArray) below meth c H locs 0 0 (MQ below (gQi D E ad L A K) ([.ref (ad 21 0), .int a1, .int a2] : List Value).toArray s 0 0 A) (F0 m 84 ls []) := by
                intro M24 x5_25 x7_26 H locs ls hw hP hS hl
                refine lv_iinc (v := (x6_13 + (-1 : Int32))) (lv' := [(6, .int (x6_13 + (-1 : Int32))), (0, .ref (ad 21 0)), (1, .int a1), (2, .int a2), (3, .int z5), (4, .int z9), (5, .int x5_25), (7, .int x7_26)]) hx hb dX9_worst_84 hl (k := 6) rfl rfl (by decide) rfl (fun ls hl => ?_)
                refine lv_goto (tgt := 39) hx hb dX9_worst_87 (by decide) ?_
                exact ihn10 _ _ _ _ _ _ hw hP hS (lv_sub hl [1, 2, 3, 4, 5, 6, 0] rfl)
              have hlX9_worst_L47 : ∀ (n15 : Nat) (M16 : gW) (x5_17 : Int32) (x7_18 : Int32) (H : Heap) (locs : List Loc) (ls : Array Slot), wX9_worst_L47 z5 z9 x6_13 K (fun M24 x5_25 x7_26 => (wX9_worst_L39 z5 z9 K (fun M28 x5_29 x6_30 => (K (-5 : Int32) M28)) n10 M24 x5_25 (x6_13 + (-1 : Int32)))) n15 M16 x5_17 x7_18 → va_P D vwCl (gL E ad L M16) H → va_S A s.heap H locs → lv_has ls 8 [(0, .ref (ad 21 0)), (1, .int a1), (2, .int a2), (3, .int z5), (4, .int z9), (5, .int x5_17), (6, .int x6_13), (7, .int x7_18)] → W p l e (headSpec wsX9_worst rmX9_worst).room s m (([.ref (ad 21 0), .int a1, .int a2] : List Value).toArray) below meth c H locs 0 0 (MQ below (gQi D E ad L A K) ([.ref (ad 21 0), .int a1, .int a2] : List Value).toArray s 0 0 A) (F0 m 47 ls []) := by
                intro n15
                induction n15 with
                | zero => intro M16 x5_17 x7_18 H locs ls hw; exact False.elim hw
                | succ n15 ihn15 =>
                  intro M16 x5_17 x7_18 H locs ls hw hP hS hl
                  refine lv_iload hx hb dX9_worst_47 (lv_at hl 7 rfl) ?_
                  refine lv_iload hx hb dX9_worst_49 (lv_at hl 4 rfl) ?_
                  refine lv_icmp_ge (tgt := 84) hx hb dX9_worst_51 (by decide) (fun c19 => ?_) (fun c19 => ?_)
                  · have hw := hw.1 c19
                    exact hxX9_worst_L47_0 _ _ _ _ _ _ hw hP hS (lv_sub hl [0, 1, 2, 3, 4, 5, 6, 7] rfl)
                  · have hw := hw.2 c19
                    refine lv_aload_n hx hb dX9_worst_54 rfl (lv_at hl 0 rfl) ?_
                    refine lv_iload hx hb dX9_worst_55 (lv_at hl 7 rfl) ?_
                    refine g_Vi (As := [.int x7_18]) (rest := []) S hK hN hP hS (qX9_needOf l D E ad L A hF hLm M16 x7_18  _ hw) (cwV 1 hts gX9_worst_X9_needOf rfl rfl rfl eX9_needOf ⟨Nat.le_of_ble_eq_true rfl, Nat.le_of_ble_eq_true rfl⟩) (hLm.h (f := 21) (by decide)) (gC21 _ _ _ _) gcl9 rfl rfl rfl hl.1 (Nat.le_of_ble_eq_true rfl) ⟨Nat.zero_le _, Nat.zero_le _⟩ dX9_worst_57 (fun r21 M20 H locs hw hP hS => ?_)
                    refine lv_iload hx hb dX9_worst_60 (lv_at hl 6 rfl) ?_
                    refine lv_icmp_ne (tgt := 78) hx hb dX9_worst_62 (by decide) (fun c22 => ?_) (fun c22 => ?_)
                    · have hw := hw.2 c22
                      refine lv_iinc (v := (x7_18 + (1 : Int32))) (lv' := [(7, .int (x7_18 + (1 : Int32))), (0, .ref (ad 21 0)), (1, .int a1), (2, .int a2), (3, .int z5), (4, .int z9), (5, .int x5_17), (6, .int x6_13)]) hx hb dX9_worst_78 hl (k := 7) rfl rfl (by decide) rfl (fun ls hl => ?_)
                      refine lv_goto (tgt := 47) hx hb dX9_worst_81 (by decide) ?_
                      exact ihn15 _ _ _ _ _ _ hw hP hS (lv_sub hl [1, 2, 3, 4, 5, 6, 7, 0] rfl)
                    · have hw := hw.1 c22
                      refine lv_iload hx hb dX9_worst_65 (lv_at hl 5 rfl) ?_
                      refine lv_if_ne (tgt := 75) hx hb dX9_worst_67 (by decide) (fun c23 => ?_) (fun c23 => ?_)
                      · have hw := hw.2 c23
                        refine lv_iinc (v := (x5_17 + (-1 : Int32))) (lv' := [(5, .int (x5_17 + (-1 : Int32))), (0, .ref (ad 21 0)), (1, .int a1), (2, .int a2), (3, .int z5), (4, .int z9), (6, .int x6_13), (7, .int x7_18)]) hx hb dX9_worst_75 hl (k := 5) rfl rfl (by decide) rfl (fun ls hl => ?_)
                        refine lv_iinc (v := (x7_18 + (1 : Int32))) (lv' := [(7, .int (x7_18 + (1 : Int32))), (5, .int (x5_17 + (-1 : Int32))), (0, .ref (ad 21 0)), (1, .int a1), (2, .int a2), (3, .int z5), (4, .int z9), (6, .int x6_13)]) hx hb dX9_worst_78 hl (k := 7) rfl rfl (by decide) rfl (fun ls hl => ?_)
                        refine lv_goto (tgt := 47) hx hb dX9_worst_81 (by decide) ?_
                        exact ihn15 _ _ _ _ _ _ hw hP hS (lv_sub hl [2, 3, 4, 5, 6, 1, 7, 0] rfl)
                      · have hw := hw.1 c23
                        refine lv_iload hx hb dX9_worst_70 (lv_at hl 7 rfl) ?_
                        refine lv_iload_n hx hb dX9_worst_72 rfl (lv_at hl 3 rfl) ?_
                        refine lv_isub hx hb dX9_worst_73 ?_
                        exact g_iret hx hb hr hlocks hw hP hS dX9_worst_74
              exact hlX9_worst_L47 n27 _ _ _ _ _ _ hw hP hS (lv_sub hl [1, 2, 3, 4, 5, 6, 7, 0] rfl)
        exact hlX9_worst_L39 n31 _ _ _ _ _ _ hw hP hS (lv_sub hl [3, 4, 5, 6, 2, 1, 0] rfl)
      refine lv_if_eq (tgt := 28) hx hb dX9_worst_19 (by decide) (fun c6 => ?_) (fun c6 => ?_)
      · have hw := hw.1 c6
        refine lv_bipush (v := (26 : Int32)) hx hb dX9_worst_28 (by decide) ?_
        exact hJ7 _ _ _ _ _ hw hP hS (lv_sub hl [1, 2, 3, 0] rfl)
      · have hw := hw.2 c6
        refine lv_sipush (v := (702 : Int32)) hx hb dX9_worst_22 (by decide) ?_
        refine lv_goto (tgt := 30) hx hb dX9_worst_25 (by decide) ?_
        exact hJ7 _ _ _ _ _ hw hP hS (lv_sub hl [1, 2, 3, 0] rfl)
    refine lv_if_eq (tgt := 16) hx hb dX9_worst_8 (by decide) (fun c2 => ?_) (fun c2 => ?_)
    · have hw := hw.1 c2
      refine lv_iconst (v := (0 : Int32)) hx hb dX9_worst_16 (by decide) ?_
      exact hJ3 _ _ _ _ _ hw hP hS (lv_sub hl [0, 1, 2] rfl)
    · have hw := hw.2 c2
      refine lv_bipush (v := (26 : Int32)) hx hb dX9_worst_11 (by decide) ?_
      refine lv_goto (tgt := 17) hx hb dX9_worst_13 (by decide) ?_
      exact hJ3 _ _ _ _ _ hw hP hS (lv_sub hl [0, 1, 2] rfl)
  · have hw := hw.2 c1
    refine lv_bipush (v := (-2 : Int32)) hx hb dX9_worst_4 (by decide) ?_
    exact g_iret hx hb hr hlocks hw hP hS dX9_worst_6
abbrev rmX9_missing : Room := { frames := 4, cells := 0, slots := 0, locals := 92 }
theorem eX9_missing : yX9_missing.cls = RX9 ∧ yX9_missing.cls ≠ "java/lang/invoke/MethodHandle" ∧ yX9_missing.cls ≠ "java/lang/invoke/VarHandle" ∧ (parseMethodDescriptor yX9_missing.desc).map (fun d => d.parameters.length) = some 1 := by decide +kernel
set_option maxHeartbeats 4000000 in
set_option maxRecDepth 100000 in
theorem qX9_missing (l : Launch) (D : va_G) (E : Nat → ClassId) (ad : Nat → Nat → Nat) (L : List (Nat × Nat)) (A : Nat → Prop) (hF : gF E ad L A) (hLm : gLm L) (M0 : gW) (a1 : Int32)  (K : Int32 → gW → Prop) (hw : wX9_missing M0 a1 K) : Met l yX9_missing wsX9_missing rmX9_missing (va_Pc [.ref (ad 21 0), .int a1] (gPre D E ad L M0)) (gQi D E ad L A K) 0 0 A := by
  refine Met.ofW (cc := cX9_missing) (maxL := 4) (ret := (some .int)) (by decide) rfl ?_
  intro p e s m args below meth c s₁ B hml hv
  obtain ⟨rfl, hP, hK, hN⟩ := hv
  have hx := B.exec
  have hb := B.bytes
  have hr := B.returns
  have hts := atoms_spec (ws := wsX9_missing) B.pre
  have hown : s.vm.findClass RX9 = some m.cls := findClass_of_methodNamed B.named
  have hlocks := B.notSynchronized
  have S : CallFix p m c cX9_missing 4 s ([.ref (ad 21 0), .int a1] : List Value).toArray wsX9_missing RX9 := ⟨hx, hb, hml, hown, hts⟩
  have hS : va_S A s.heap s.heap [] := va_S.rf
  have hl := lv_entry ([.ref (ad 21 0), .int a1]) (n := 4) (Nat.le_of_ble_eq_true rfl)
  rw [lg_entry_eq]
  generalize (lg_sl ([.ref (ad 21 0), .int a1]) ++ List.replicate (4 - (lg_sl ([.ref (ad 21 0), .int a1])).length) Slot.unset).toArray = ls at hl ⊢
  have hl : lv_has ls 4 [(0, .ref (ad 21 0)), (1, .int a1)] := hl
  refine lv_iconst (v := (0 : Int32)) hx hb dX9_missing_0 (by decide) ?_
  refine lv_istore_n (lv' := [(2, .int (0 : Int32)), (0, .ref (ad 21 0)), (1, .int a1)]) hx hb dX9_missing_1 rfl hl (by decide) rfl (fun ls hl => ?_)
  refine lv_iload_n hx hb dX9_missing_2 rfl (lv_at hl 2 rfl) ?_
  obtain ⟨J2, eJ2⟩ : ∃ J2 : gW → Int32 → Prop, J2 = (fun M3 z4 => (∃ n27 : Nat, wX9_missing_L13 a1 (fun M24 x2_25 x3_26 => (K x2_25 M24)) n27 M3 (0 : Int32) z4)) := ⟨_, rfl⟩
  have hw : (a1 = 0 → (J2 M0 (0 : Int32))) ∧ (¬ (a1 = 0) → (J2 M0 (26 : Int32))) := by rw [eJ2]; exact hw
  have hJ2 : ∀ (M3 : gW) (z4 : Int32) (H : Heap) (locs : List Loc) (ls : Array Slot), J2 M3 z4 → va_P D vwCl (gL E ad L M3) H → va_S A s.heap H locs → lv_has ls 4 [(0, .ref (ad 21 0)), (1, .int a1), (2, .int (0 : Int32))] → W p l e (headSpec wsX9_missing rmX9_missing).room s m (([.ref (ad 21 0), .int a1] : List Value).toArray) below meth c H locs 0 0 (MQ below (gQi D E ad L A K) ([.ref (ad 21 0), .int a1] : List Value).toArray s 0 0 A) (F0 m 12 ls [.int z4]) := by
    intro M3 z4 H locs ls hw hP hS hl
    rw [eJ2] at hw
    refine lv_istore_n (lv' := [(3, .int z4), (0, .ref (ad 21 0)), (1, .int a1), (2, .int (0 : Int32))]) hx hb dX9_missing_12 rfl hl (by decide) rfl (fun ls hl => ?_)
    obtain ⟨n27, hw⟩ := hw
    have hxX9_missing_L13_0 : ∀ (M24 : gW) (x2_25 : Int32) (x3_26 : Int32) (H : Heap) (locs : List Loc) (ls : Array Slot), (K x2_25 M24) → va_P D vwCl (gL E ad L M24) H → va_S A s.heap H locs → lv_has ls 4 [(0, .ref (ad 21 0)), (1, .int a1), (2, .int x2_25), (3, .int x3_26)] → W p l e (headSpec wsX9_missing rmX9_missing).room s m (([.ref (ad 21 0), .int a1] : List Value).toArray) below meth c H locs 0 0 (MQ below (gQi D E ad L A K) ([.ref (ad 21 0), .int a1] : List Value).toArray s 0 0 A) (F0 m 59 ls []) := by
      intro M24 x2_25 x3_26 H locs ls hw hP hS hl
      refine lv_iload_n hx hb dX9_missing_59 rfl (lv_at hl 2 rfl) ?_
      exact g_iret hx hb hr hlocks hw hP hS dX9_missing_60
    have hlX9_missing_L13 : ∀ (n5 : Nat) (M6 : gW) (x2_7 : Int32) (x3_8 : Int32) (H : Heap) (locs : List Loc) (ls : Array Slot), wX9_missing_L13 a1 (fun M24 x2_25 x3_26 => (K x2_25 M24)) n5 M6 x2_7 x3_8 → va_P D vwCl (gL E ad L M6) H → va_S A s.heap H locs → lv_has ls 4 [(0, .ref (ad 21 0)), (1, .int a1), (2, .int x2_7), (3, .int x3_8)] → W p l e (headSpec wsX9_missing rmX9_missing).room s m (([.ref (ad 21 0), .int a1] : List Value).toArray) below meth c H locs 0 0 (MQ below (gQi D E ad L A K) ([.ref (ad 21 0), .int a1] : List Value).toArray s 0 0 A) (F0 m 13 ls []) := by
      intro n5
      induction n5 with
      | zero => intro M6 x2_7 x3_8 H locs ls hw; exact False.elim hw
      | succ n5 ihn5 =>
        intro M6 x2_7 x3_8 H locs ls hw hP hS hl
        refine lv_iload_n hx hb dX9_missing_13 rfl (lv_at hl 3 rfl) ?_
        refine lv_iload_n hx hb dX9_missing_14 rfl (lv_at hl 1 rfl) ?_
        refine lv_if_eq (tgt := 24) hx hb dX9_missing_15 (by decide) (fun c9 => ?_) (fun c9 => ?_)
        · have hw := hw.1 c9
          refine lv_bipush (v := (26 : Int32)) hx hb dX9_missing_24 (by decide) ?_
          refine lv_icmp_ge (tgt := 59) hx hb dX9_missing_26 (by decide) (fun c10 => ?_) (fun c10 => ?_)
          · have hw := hw.1 c10
            exact hxX9_missing_L13_0 _ _ _ _ _ _ hw hP hS (lv_sub hl [0, 1, 2, 3] rfl)
          · have hw := hw.2 c10
            refine lv_iload_n hx hb dX9_missing_29 rfl (lv_at hl 2 rfl) ?_
            refine lv_aload_n hx hb dX9_missing_30 rfl (lv_at hl 0 rfl) ?_
            refine lv_iload_n hx hb dX9_missing_31 rfl (lv_at hl 3 rfl) ?_
            refine g_Vi (As := [.int x3_8]) (rest := [.int x2_7]) S hK hN hP hS (qX9_needOf l D E ad L A hF hLm M6 x3_8  _ hw) (cwV 1 hts gX9_missing_X9_needOf rfl rfl rfl eX9_needOf ⟨Nat.le_of_ble_eq_true rfl, Nat.le_of_ble_eq_true rfl⟩) (hLm.h (f := 21) (by decide)) (gC21 _ _ _ _) gcl9 rfl rfl rfl hl.1 (Nat.le_of_ble_eq_true rfl) ⟨Nat.zero_le _, Nat.zero_le _⟩ dX9_missing_32 (fun r12 M11 H locs hw hP hS => ?_)
            refine lv_if_le (tgt := 50) hx hb dX9_missing_35 (by decide) (fun c13 => ?_) (fun c13 => ?_)
            · have hw := hw.1 c13
              refine lv_iconst (v := (0 : Int32)) hx hb dX9_missing_50 (by decide) ?_
              refine lv_iadd hx hb dX9_missing_51 ?_
              refine lv_istore_n (lv' := [(2, .int (x2_7 + (0 : Int32))), (0, .ref (ad 21 0)), (1, .int a1), (3, .int x3_8)]) hx hb dX9_missing_52 rfl hl (by decide) rfl (fun ls hl => ?_)
              refine lv_iinc (v := (x3_8 + (1 : Int32))) (lv' := [(3, .int (x3_8 + (1 : Int32))), (2, .int (x2_7 + (0 : Int32))), (0, .ref (ad 21 0)), (1, .int a1)]) hx hb dX9_missing_53 hl (k := 3) rfl rfl (by decide) rfl (fun ls hl => ?_)
              refine lv_goto (tgt := 13) hx hb dX9_missing_56 (by decide) ?_
              exact ihn5 _ _ _ _ _ _ hw hP hS (lv_sub hl [2, 3, 1, 0] rfl)
            · have hw := hw.2 c13
              refine lv_aload_n hx hb dX9_missing_38 rfl (lv_at hl 0 rfl) ?_
              refine lv_iload_n hx hb dX9_missing_39 rfl (lv_at hl 3 rfl) ?_
              refine g_Vi (As := [.int x3_8]) (rest := [.int x2_7]) S hK hN hP hS (qX9_wordsWith l D E ad L A hF hLm M11 x3_8  _ hw) (cwV 1 hts gX9_missing_X9_wordsWith rfl rfl rfl eX9_wordsWith ⟨Nat.le_of_ble_eq_true rfl, Nat.le_of_ble_eq_true rfl⟩) (hLm.h (f := 21) (by decide)) (gC21 _ _ _ _) gcl9 rfl rfl rfl hl.1 (Nat.le_of_ble_eq_true rfl) ⟨Nat.zero_le _, Nat.zero_le _⟩ dX9_missing_40 (fun r15 M14 H locs hw hP hS => ?_)
              refine lv_if_ne (tgt := 50) hx hb dX9_missing_43 (by decide) (fun c16 => ?_) (fun c16 => ?_)
              · have hw := hw.2 c16
                refine lv_iconst (v := (0 : Int32)) hx hb dX9_missing_50 (by decide) ?_
                refine lv_iadd hx hb dX9_missing_51 ?_
                refine lv_istore_n (lv' := [(2, .int (x2_7 + (0 : Int32))), (0, .ref (ad 21 0)), (1, .int a1), (3, .int x3_8)]) hx hb dX9_missing_52 rfl hl (by decide) rfl (fun ls hl => ?_)
                refine lv_iinc (v := (x3_8 + (1 : Int32))) (lv' := [(3, .int (x3_8 + (1 : Int32))), (2, .int (x2_7 + (0 : Int32))), (0, .ref (ad 21 0)), (1, .int a1)]) hx hb dX9_missing_53 hl (k := 3) rfl rfl (by decide) rfl (fun ls hl => ?_)
                refine lv_goto (tgt := 13) hx hb dX9_missing_56 (by decide) ?_
                exact ihn5 _ _ _ _ _ _ hw hP hS (lv_sub hl [2, 3, 1, 0] rfl)
              · have hw := hw.1 c16
                refine lv_iconst (v := (1 : Int32)) hx hb dX9_missing_46 (by decide) ?_
                refine lv_goto (tgt := 51) hx hb dX9_missing_47 (by decide) ?_
                refine lv_iadd hx hb dX9_missing_51 ?_
                refine lv_istore_n (lv' := [(2, .int (x2_7 + (1 : Int32))), (0, .ref (ad 21 0)), (1, .int a1), (3, .int x3_8)]) hx hb dX9_missing_52 rfl hl (by decide) rfl (fun ls hl => ?_)
                refine lv_iinc (v := (x3_8 + (1 : Int32))) (lv' := [(3, .int (x3_8 + (1 : Int32))), (2, .int (x2_7 + (1 : Int32))), (0, .ref (ad 21 0)), (1, .int a1)]) hx hb dX9_missing_53 hl (k := 3) rfl rfl (by decide) rfl (fun ls hl => ?_)
                refine lv_goto (tgt := 13) hx hb dX9_missing_56 (by decide) ?_
                exact ihn5 _ _ _ _ _ _ hw hP hS (lv_sub hl [2, 3, 1, 0] rfl)
        · have hw := hw.2 c9
          refine lv_sipush (v := (702 : Int32)) hx hb dX9_missing_18 (by decide) ?_
          refine lv_goto (tgt := 26) hx hb dX9_missing_21 (by decide) ?_
          refine lv_icmp_ge (tgt := 59) hx hb dX9_missing_26 (by decide) (fun c17 => ?_) (fun c17 => ?_)
          · have hw := hw.1 c17
            exact hxX9_missing_L13_0 _ _ _ _ _ _ hw hP hS (lv_sub hl [0, 1, 2, 3] rfl)
          · have hw := hw.2 c17
            refine lv_iload_n hx hb dX9_missing_29 rfl (lv_at hl 2 rfl) ?_
            refine lv_aload_n hx hb dX9_missing_30 rfl (lv_at hl 0 rfl) ?_
            refine lv_iload_n hx hb dX9_missing_31 rfl (lv_at hl 3 rfl) ?_
            refine g_Vi (As := [.int x3_8]) (rest := [.int x2_7]) S hK hN hP hS (qX9_needOf l D E ad L A hF hLm M6 x3_8  _ hw) (cwV 1 hts gX9_missing_X9_needOf rfl rfl rfl eX9_needOf ⟨Nat.le_of_ble_eq_true rfl, Nat.le_of_ble_eq_true rfl⟩) (hLm.h (f := 21) (by decide)) (gC21 _ _ _ _) gcl9 rfl rfl rfl hl.1 (Nat.le_of_ble_eq_true rfl) ⟨Nat.zero_le _, Nat.zero_le _⟩ dX9_missing_32 (fun r19 M18 H locs hw hP hS => ?_)
            refine lv_if_le (tgt := 50) hx hb dX9_missing_35 (by decide) (fun c20 => ?_) (fun c20 => ?_)
            · have hw := hw.1 c20
              refine lv_iconst (v := (0 : Int32)) hx hb dX9_missing_50 (by decide) ?_
              refine lv_iadd hx hb dX9_missing_51 ?_
              refine lv_istore_n (lv' := [(2, .int (x2_7 + (0 : Int32))), (0, .ref (ad 21 0)), (1, .int a1), (3, .int x3_8)]) hx hb dX9_missing_52 rfl hl (by decide) rfl (fun ls hl => ?_)
              refine lv_iinc (v := (x3_8 + (1 : Int32))) (lv' := [(3, .int (x3_8 + (1 : Int32))), (2, .int (x2_7 + (0 : Int32))), (0, .ref (ad 21 0)), (1, .int a1)]) hx hb dX9_missing_53 hl (k := 3) rfl rfl (by decide) rfl (fun ls hl => ?_)
              refine lv_goto (tgt := 13) hx hb dX9_missing_56 (by decide) ?_
              exact ihn5 _ _ _ _ _ _ hw hP hS (lv_sub hl [2, 3, 1, 0] rfl)
            · have hw := hw.2 c20
              refine lv_aload_n hx hb dX9_missing_38 rfl (lv_at hl 0 rfl) ?_
              refine lv_iload_n hx hb dX9_missing_39 rfl (lv_at hl 3 rfl) ?_
              refine g_Vi (As := [.int x3_8]) (rest := [.int x2_7]) S hK hN hP hS (qX9_wordsWith l D E ad L A hF hLm M18 x3_8  _ hw) (cwV 1 hts gX9_missing_X9_wordsWith rfl rfl rfl eX9_wordsWith ⟨Nat.le_of_ble_eq_true rfl, Nat.le_of_ble_eq_true rfl⟩) (hLm.h (f := 21) (by decide)) (gC21 _ _ _ _) gcl9 rfl rfl rfl hl.1 (Nat.le_of_ble_eq_true rfl) ⟨Nat.zero_le _, Nat.zero_le _⟩ dX9_missing_40 (fun r22 M21 H locs hw hP hS => ?_)
              refine lv_if_ne (tgt := 50) hx hb dX9_missing_43 (by decide) (fun c23 => ?_) (fun c23 => ?_)
              · have hw := hw.2 c23
                refine lv_iconst (v := (0 : Int32)) hx hb dX9_missing_50 (by decide) ?_
                refine lv_iadd hx hb dX9_missing_51 ?_
                refine lv_istore_n (lv' := [(2, .int (x2_7 + (0 : Int32))), (0, .ref (ad 21 0)), (1, .int a1), (3, .int x3_8)]) hx hb dX9_missing_52 rfl hl (by decide) rfl (fun ls hl => ?_)
                refine lv_iinc (v := (x3_8 + (1 : Int32))) (lv' := [(3, .int (x3_8 + (1 : Int32))), (2, .int (x2_7 + (0 : Int32))), (0, .ref (ad 21 0)), (1, .int a1)]) hx hb dX9_missing_53 hl (k := 3) rfl rfl (by decide) rfl (fun ls hl => ?_)
                refine lv_goto (tgt := 13) hx hb dX9_missing_56 (by decide) ?_
                exact ihn5 _ _ _ _ _ _ hw hP hS (lv_sub hl [2, 3, 1, 0] rfl)
              · have hw := hw.1 c23
                refine lv_iconst (v := (1 : Int32)) hx hb dX9_missing_46 (by decide) ?_
                refine lv_goto (tgt := 51) hx hb dX9_missing_47 (by decide) ?_
                refine lv_iadd hx hb dX9_missing_51 ?_
                refine lv_istore_n (lv' := [(2, .int (x2_7 + (1 : Int32))), (0, .ref (ad 21 0)), (1, .int a1), (3, .int x3_8)]) hx hb dX9_missing_52 rfl hl (by decide) rfl (fun ls hl => ?_)
                refine lv_iinc (v := (x3_8 + (1 : Int32))) (lv' := [(3, .int (x3_8 + (1 : Int32))), (2, .int (x2_7 + (1 : Int32))), (0, .ref (ad 21 0)), (1, .int a1)]) hx hb dX9_missing_53 hl (k := 3) rfl rfl (by decide) rfl (fun ls hl => ?_)
                refine lv_goto (tgt := 13) hx hb dX9_missing_56 (by decide) ?_
                exact ihn5 _ _ _ _ _ _ hw hP hS (lv_sub hl [2, 3, 1, 0] rfl)
    exact hlX9_missing_L13 n27 _ _ _ _ _ _ hw hP hS (lv_sub hl [1, 2, 3, 0] rfl)
  refine lv_if_eq (tgt := 11) hx hb dX9_missing_3 (by decide) (fun c1 => ?_) (fun c1 => ?_)
  · have hw := hw.1 c1
    refine lv_iconst (v := (0 : Int32)) hx hb dX9_missing_11 (by decide) ?_
    exact hJ2 _ _ _ _ _ hw hP hS (lv_sub hl [1, 2, 0] rfl)
  · have hw := hw.2 c1
    refine lv_bipush (v := (26 : Int32)) hx hb dX9_missing_6 (by decide) ?_
    refine lv_goto (tgt := 12) hx hb dX9_missing_8 (by decide) ?_
    exact hJ2 _ _ _ _ _ hw hP hS (lv_sub hl [1, 2, 0] rfl)
abbrev rmX9_greatestOfWords : Room := { frames := 2, cells := 0, slots := 0, locals := 45 }
theorem eX9_greatestOfWords : yX9_greatestOfWords.cls = RX9 ∧ yX9_greatestOfWords.cls ≠ "java/lang/invoke/MethodHandle" ∧ yX9_greatestOfWords.cls ≠ "java/lang/invoke/VarHandle" ∧ (parseMethodDescriptor yX9_greatestOfWords.desc).map (fun d => d.parameters.length) = some 0 := by decide +kernel
theorem iX9_greatestOfWords_X9 : ∀ w ∈ wsX90, w ∈ wsX9_greatestOfWords := fun _ h => List.mem_cons_of_mem _ (List.mem_append_right _ (h))
theorem mX9_greatestOfWords_1 : Cond.fieldLink RX9 7 "PracticeSheetsModel" "all" "[I" ∈ wsX9_greatestOfWords := List.mem_of_getElem? (i := 1) rfl
theorem mX9_greatestOfWords_2 : Cond.fieldLink RX9 61 "PracticeSheetsModel" "parts" "I" ∈ wsX9_greatestOfWords := List.mem_of_getElem? (i := 2) rfl
theorem mX9_greatestOfWords_3 : Cond.fieldLink RX9 25 "PracticeSheetsModel" "part" "[I" ∈ wsX9_greatestOfWords := List.mem_of_getElem? (i := 3) rfl
set_option maxHeartbeats 4000000 in
set_option maxRecDepth 100000 in
theorem qX9_greatestOfWords (l : Launch) (D : va_G) (E : Nat → ClassId) (ad : Nat → Nat → Nat) (L : List (Nat × Nat)) (A : Nat → Prop) (hF : gF E ad L A) (hLm : gLm L) (M0 : gW)  (K : Int32 → gW → Prop) (hw : wX9_greatestOfWords M0 K) : Met l yX9_greatestOfWords wsX9_greatestOfWords rmX9_greatestOfWords (va_Pc [.ref (ad 21 0)] (gPre D E ad L M0)) (gQi D E ad L A K) 0 0 A := by
  refine Met.ofW (cc := cX9_greatestOfWords) (maxL := 4) (ret := (some .int)) (by decide) rfl ?_
  intro p e s m args below meth c s₁ B hml hv
  obtain ⟨rfl, hP, hK, hN⟩ := hv
  have hx := B.exec
  have hb := B.bytes
  have hr := B.returns
  have hts := atoms_spec (ws := wsX9_greatestOfWords) B.pre
  have hown : s.vm.findClass RX9 = some m.cls := findClass_of_methodNamed B.named
  have hlocks := B.notSynchronized
  have S : CallFix p m c cX9_greatestOfWords 4 s ([.ref (ad 21 0)] : List Value).toArray wsX9_greatestOfWords RX9 := ⟨hx, hb, hml, hown, hts⟩
  have hS : va_S A s.heap s.heap [] := va_S.rf
  have hl := lv_entry ([.ref (ad 21 0)]) (n := 4) (Nat.le_of_ble_eq_true rfl)
  rw [lg_entry_eq]
  generalize (lg_sl ([.ref (ad 21 0)]) ++ List.replicate (4 - (lg_sl ([.ref (ad 21 0)])).length) Slot.unset).toArray = ls at hl ⊢
  have hl : lv_has ls 4 [(0, .ref (ad 21 0))] := hl
  refine lv_iconst (v := (0 : Int32)) hx hb dX9_greatestOfWords_0 (by decide) ?_
  refine lv_istore_n (lv' := [(1, .int (0 : Int32)), (0, .ref (ad 21 0))]) hx hb dX9_greatestOfWords_1 rfl hl (by decide) rfl (fun ls hl => ?_)
  refine lv_iconst (v := (0 : Int32)) hx hb dX9_greatestOfWords_2 (by decide) ?_
  refine lv_istore_n (lv' := [(2, .int (0 : Int32)), (1, .int (0 : Int32)), (0, .ref (ad 21 0))]) hx hb dX9_greatestOfWords_3 rfl hl (by decide) rfl (fun ls hl => ?_)
  obtain ⟨n27, hw⟩ := hw
  have hxX9_greatestOfWords_L4_0 : ∀ (M24 : gW) (x1_25 : Int32) (x2_26 : Int32) (H : Heap) (locs : List Loc) (ls : Array Slot), (K x1_25 M24) → va_P D vwCl (gL E ad L M24) H → va_S A s.heap H locs → lv_has ls 4 [(0, .ref (ad 21 0)), (1, .int x1_25), (2, .int x2_26)] → W p l e (headSpec wsX9_greatestOfWords rmX9_greatestOfWords).room s m (([.ref (ad 21 0)] : List Value).toArray) below meth c H locs 0 0 (MQ below (gQi D E ad L A K) ([.ref (ad 21 0)] : List Value).toArray s 0 0 A) (F0 m 70 ls []) := by
    intro M24 x1_25 x2_26 H locs ls hw hP hS hl
    refine lv_iload_n hx hb dX9_greatestOfWords_70 rfl (lv_at hl 1 rfl) ?_
    exact g_iret hx hb hr hlocks hw hP hS dX9_greatestOfWords_71
  have hlX9_greatestOfWords_L4 : ∀ (n1 : Nat) (M2 : gW) (x1_3 : Int32) (x2_4 : Int32) (H : Heap) (locs : List Loc) (ls : Array Slot), wX9_greatestOfWords_L4 (fun M24 x1_25 x2_26 => (K x1_25 M24)) n1 M2 x1_3 x2_4 → va_P D vwCl (gL E ad L M2) H → va_S A s.heap H locs → lv_has ls 4 [(0, .ref (ad 21 0)), (1, .int x1_3), (2, .int x2_4)] → W p l e (headSpec wsX9_greatestOfWords rmX9_greatestOfWords).room s m (([.ref (ad 21 0)] : List Value).toArray) below meth c H locs 0 0 (MQ below (gQi D E ad L A K) ([.ref (ad 21 0)] : List Value).toArray s 0 0 A) (F0 m 4 ls []) := by
    intro n1
    induction n1 with
    | zero => intro M2 x1_3 x2_4 H locs ls hw; exact False.elim hw
    | succ n1 ihn1 =>
      intro M2 x1_3 x2_4 H locs ls hw hP hS hl
      refine lv_iload_n hx hb dX9_greatestOfWords_4 rfl (lv_at hl 2 rfl) ?_
      refine lv_aload_n hx hb dX9_greatestOfWords_5 rfl (lv_at hl 0 rfl) ?_
      refine g_get (v := .ref (ad 22 0)) hx hb hts hown hK hP (hLm.h (f := 21) (by decide)) (gC21 _ _ _ _) gcl9 iX9_greatestOfWords_X9 0 (by decide) mX9_greatestOfWords_1 rfl rfl dX9_greatestOfWords_6 ?_
      refine lv_iconst (v := (5 : Int32)) hx hb dX9_greatestOfWords_9 (by decide) ?_
      have hb5 := hw.1
      have hw := hw.2
      refine g_iald (n := 1730) hx hb hK hP (hLm.h (f := 22) (by decide)) rfl hb5 dX9_greatestOfWords_10 ?_
      refine lv_icmp_ge (tgt := 70) hx hb dX9_greatestOfWords_11 (by decide) (fun c6 => ?_) (fun c6 => ?_)
      · have hw := hw.1 c6
        exact hxX9_greatestOfWords_L4_0 _ _ _ _ _ _ hw hP hS (lv_sub hl [0, 1, 2] rfl)
      · have hw := hw.2 c6
        refine lv_aload_n hx hb dX9_greatestOfWords_14 rfl (lv_at hl 0 rfl) ?_
        refine lv_iload_n hx hb dX9_greatestOfWords_15 rfl (lv_at hl 2 rfl) ?_
        refine g_Vv (As := [.int x2_4]) (rest := []) S hK hN hP hS (qX9_findsParts l D E ad L A hF hLm M2 x2_4  _ hw) (cwV 1 hts gX9_greatestOfWords_X9_findsParts rfl rfl rfl eX9_findsParts ⟨Nat.le_of_ble_eq_true rfl, Nat.le_of_ble_eq_true rfl⟩) (hLm.h (f := 21) (by decide)) (gC21 _ _ _ _) gcl9 rfl rfl rfl hl.1 (Nat.le_of_ble_eq_true rfl) ⟨Nat.zero_le _, Nat.zero_le _⟩ dX9_greatestOfWords_16 (fun M7 H locs hw hP hS => ?_)
        refine lv_iconst (v := (0 : Int32)) hx hb dX9_greatestOfWords_19 (by decide) ?_
        refine lv_istore_n (lv' := [(3, .int (0 : Int32)), (0, .ref (ad 21 0)), (1, .int x1_3), (2, .int x2_4)]) hx hb dX9_greatestOfWords_20 rfl hl (by decide) rfl (fun ls hl => ?_)
        obtain ⟨n23, hw⟩ := hw
        have hxX9_greatestOfWords_L21_0 : ∀ (M20 : gW) (x1_21 : Int32) (x3_22 : Int32) (H : Heap) (locs : List Loc) (ls : Array Slot), (wX9_greatestOfWords_L4 (fun M24 x1_25 x2_26 => (K x1_25 M24)) n1 M20 x1_21 (x2_4 + (1 : Int32))) → va_P D vwCl (gL E ad L M20) H → va_S A s.heap H locs → lv_has ls 4 [(0, .ref (ad 21 0)), (1, .int x1_21), (2, .int x2_4), (3, .int x3_22)] → W p l e (headSpec wsX9_greatestOfWords rmX9_greatestOfWords).room s m (([.ref (ad 21 0)] : List Value).toArray) below meth c H locs 0 0 (MQ below (gQi D E ad L A K) ([.ref (ad 21 0)] : List Value).toArray s 0 0 A) (F0 m 64 ls []) := by
          intro M20 x1_21 x3_22 H locs ls hw hP hS hl
          refine lv_iinc (v := (x2_4 + (1 : Int32))) (lv' := [(2, .int (x2_4 + (1 : Int32))), (0, .ref (ad 21 0)), (1, .int x1_21), (3, .int x3_22)]) hx hb dX9_greatestOfWords_64 hl (k := 2) rfl rfl (by decide) rfl (fun ls hl => ?_)
          refine lv_goto (tgt := 4) hx hb dX9_greatestOfWords_67 (by decide) ?_
          exact ihn1 _ _ _ _ _ _ hw hP hS (lv_sub hl [1, 2, 0] rfl)
        have hlX9_greatestOfWords_L21 : ∀ (n8 : Nat) (M9 : gW) (x1_10 : Int32) (x3_11 : Int32) (H : Heap) (locs : List Loc) (ls : Array Slot), wX9_greatestOfWords_L21 (fun M20 x1_21 x3_22 => (wX9_greatestOfWords_L4 (fun M24 x1_25 x2_26 => (K x1_25 M24)) n1 M20 x1_21 (x2_4 + (1 : Int32)))) n8 M9 x1_10 x3_11 → va_P D vwCl (gL E ad L M9) H → va_S A s.heap H locs → lv_has ls 4 [(0, .ref (ad 21 0)), (1, .int x1_10), (2, .int x2_4), (3, .int x3_11)] → W p l e (headSpec wsX9_greatestOfWords rmX9_greatestOfWords).room s m (([.ref (ad 21 0)] : List Value).toArray) below meth c H locs 0 0 (MQ below (gQi D E ad L A K) ([.ref (ad 21 0)] : List Value).toArray s 0 0 A) (F0 m 21 ls []) := by
          intro n8
          induction n8 with
          | zero => intro M9 x1_10 x3_11 H locs ls hw; exact False.elim hw
          | succ n8 ihn8 =>
            intro M9 x1_10 x3_11 H locs ls hw hP hS hl
            refine lv_iload_n hx hb dX9_greatestOfWords_21 rfl (lv_at hl 3 rfl) ?_
            refine lv_aload_n hx hb dX9_greatestOfWords_22 rfl (lv_at hl 0 rfl) ?_
            refine g_get (v := .int (M9 21 0 8)) hx hb hts hown hK hP (hLm.h (f := 21) (by decide)) (gC21 _ _ _ _) gcl9 iX9_greatestOfWords_X9 8 (by decide) mX9_greatestOfWords_2 rfl rfl dX9_greatestOfWords_23 ?_
            refine lv_icmp_ge (tgt := 64) hx hb dX9_greatestOfWords_26 (by decide) (fun c12 => ?_) (fun c12 => ?_)
            · have hw := hw.1 c12
              exact hxX9_greatestOfWords_L21_0 _ _ _ _ _ _ hw hP hS (lv_sub hl [0, 1, 2, 3] rfl)
            · have hw := hw.2 c12
              refine lv_aload_n hx hb dX9_greatestOfWords_29 rfl (lv_at hl 0 rfl) ?_
              refine lv_aload_n hx hb dX9_greatestOfWords_30 rfl (lv_at hl 0 rfl) ?_
              refine g_get (v := .ref (ad 22 5)) hx hb hts hown hK hP (hLm.h (f := 21) (by decide)) (gC21 _ _ _ _) gcl9 iX9_greatestOfWords_X9 7 (by decide) mX9_greatestOfWords_3 rfl rfl dX9_greatestOfWords_31 ?_
              refine lv_iload_n hx hb dX9_greatestOfWords_34 rfl (lv_at hl 3 rfl) ?_
              have hb13 := hw.1
              have hw := hw.2
              refine g_iald (n := 29) hx hb hK hP (hLm.h (f := 22) (by decide)) rfl hb13 dX9_greatestOfWords_35 ?_
              refine g_Vi (As := [.int (M9 22 5 x3_11.toNatClampNeg)]) (rest := []) S hK hN hP hS (qX9_needOf l D E ad L A hF hLm M9 (M9 22 5 x3_11.toNatClampNeg)  _ hw) (cwV 1 hts gX9_greatestOfWords_X9_needOf rfl rfl rfl eX9_needOf ⟨Nat.le_of_ble_eq_true rfl, Nat.le_of_ble_eq_true rfl⟩) (hLm.h (f := 21) (by decide)) (gC21 _ _ _ _) gcl9 rfl rfl rfl hl.1 (Nat.le_of_ble_eq_true rfl) ⟨Nat.zero_le _, Nat.zero_le _⟩ dX9_greatestOfWords_36 (fun r15 M14 H locs hw hP hS => ?_)
              refine lv_iload_n hx hb dX9_greatestOfWords_39 rfl (lv_at hl 1 rfl) ?_
              refine lv_icmp_le (tgt := 56) hx hb dX9_greatestOfWords_40 (by decide) (fun c16 => ?_) (fun c16 => ?_)
              · have hw := hw.1 c16
                refine lv_iload_n hx hb dX9_greatestOfWords_56 rfl (lv_at hl 1 rfl) ?_
                refine lv_istore_n (lv' := [(1, .int x1_10), (0, .ref (ad 21 0)), (2, .int x2_4), (3, .int x3_11)]) hx hb dX9_greatestOfWords_57 rfl hl (by decide) rfl (fun ls hl => ?_)
                refine lv_iinc (v := (x3_11 + (1 : Int32))) (lv' := [(3, .int (x3_11 + (1 : Int32))), (1, .int x1_10), (0, .ref (ad 21 0)), (2, .int x2_4)]) hx hb dX9_greatestOfWords_58 hl (k := 3) rfl rfl (by decide) rfl (fun ls hl => ?_)
                refine lv_goto (tgt := 21) hx hb dX9_greatestOfWords_61 (by decide) ?_
                exact ihn8 _ _ _ _ _ _ hw hP hS (lv_sub hl [2, 1, 3, 0] rfl)
              · have hw := hw.2 c16
                refine lv_aload_n hx hb dX9_greatestOfWords_43 rfl (lv_at hl 0 rfl) ?_
                refine lv_aload_n hx hb dX9_greatestOfWords_44 rfl (lv_at hl 0 rfl) ?_
                refine g_get (v := .ref (ad 22 5)) hx hb hts hown hK hP (hLm.h (f := 21) (by decide)) (gC21 _ _ _ _) gcl9 iX9_greatestOfWords_X9 7 (by decide) mX9_greatestOfWords_3 rfl rfl dX9_greatestOfWords_45 ?_
                refine lv_iload_n hx hb dX9_greatestOfWords_48 rfl (lv_at hl 3 rfl) ?_
                have hb17 := hw.1
                have hw := hw.2
                refine g_iald (n := 29) hx hb hK hP (hLm.h (f := 22) (by decide)) rfl hb17 dX9_greatestOfWords_49 ?_
                refine g_Vi (As := [.int (M14 22 5 x3_11.toNatClampNeg)]) (rest := []) S hK hN hP hS (qX9_needOf l D E ad L A hF hLm M14 (M14 22 5 x3_11.toNatClampNeg)  _ hw) (cwV 1 hts gX9_greatestOfWords_X9_needOf rfl rfl rfl eX9_needOf ⟨Nat.le_of_ble_eq_true rfl, Nat.le_of_ble_eq_true rfl⟩) (hLm.h (f := 21) (by decide)) (gC21 _ _ _ _) gcl9 rfl rfl rfl hl.1 (Nat.le_of_ble_eq_true rfl) ⟨Nat.zero_le _, Nat.zero_le _⟩ dX9_greatestOfWords_50 (fun r19 M18 H locs hw hP hS => ?_)
                refine lv_goto (tgt := 57) hx hb dX9_greatestOfWords_53 (by decide) ?_
                refine lv_istore_n (lv' := [(1, .int r19), (0, .ref (ad 21 0)), (2, .int x2_4), (3, .int x3_11)]) hx hb dX9_greatestOfWords_57 rfl hl (by decide) rfl (fun ls hl => ?_)
                refine lv_iinc (v := (x3_11 + (1 : Int32))) (lv' := [(3, .int (x3_11 + (1 : Int32))), (1, .int r19), (0, .ref (ad 21 0)), (2, .int x2_4)]) hx hb dX9_greatestOfWords_58 hl (k := 3) rfl rfl (by decide) rfl (fun ls hl => ?_)
                refine lv_goto (tgt := 21) hx hb dX9_greatestOfWords_61 (by decide) ?_
                exact ihn8 _ _ _ _ _ _ hw hP hS (lv_sub hl [2, 1, 3, 0] rfl)
        exact hlX9_greatestOfWords_L21 n23 _ _ _ _ _ _ hw hP hS (lv_sub hl [1, 2, 3, 0] rfl)
  exact hlX9_greatestOfWords_L4 n27 _ _ _ _ _ _ hw hP hS (lv_sub hl [2, 1, 0] rfl)
