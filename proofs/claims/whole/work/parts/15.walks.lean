/-! ===== LAYER 1: contracts, walked (printed by wip/whole/gen.py) ===== -/
abbrev rmX8_firstPart : Room := { frames := 0, cells := 0, slots := 0, locals := 0 }
theorem eX8_firstPart : yX8_firstPart.cls = RX8 ∧ yX8_firstPart.cls ≠ "java/lang/invoke/MethodHandle" ∧ yX8_firstPart.cls ≠ "java/lang/invoke/VarHandle" ∧ (parseMethodDescriptor yX8_firstPart.desc).map (fun d => d.parameters.length) = some 1 := by decide +kernel
set_option maxHeartbeats 4000000 in
set_option maxRecDepth 100000 in
theorem qX8_firstPart (l : Launch) (D : va_G) (E : Nat → ClassId) (ad : Nat → Nat → Nat) (L : List (Nat × Nat)) (A : Nat → Prop) (hF : gF E ad L A) (hLx : gLx L) (M0 : gW) (a0 : Int32)  (K : Int32 → gW → Prop) (hw : wX8_firstPart M0 a0 K) : Met l yX8_firstPart wsX8_firstPart rmX8_firstPart (va_Pc [.int a0] (gPre D E ad L M0)) (gQi D E ad L A K) 0 0 A := by
  refine Met.ofW (cc := cX8_firstPart) (maxL := 1) (ret := (some .int)) (by decide) rfl ?_
  intro p e s m args below meth c s₁ B hml hv
  obtain ⟨rfl, hP, hK, hN⟩ := hv
  have hx := B.exec
  have hb := B.bytes
  have hr := B.returns
  have hts := atoms_spec (ws := wsX8_firstPart) B.pre
  have hown : s.vm.findClass RX8 = some m.cls := findClass_of_methodNamed B.named
  have hlocks := B.notSynchronized
  have S : CallFix p m c cX8_firstPart 1 s ([.int a0] : List Value).toArray wsX8_firstPart RX8 := ⟨hx, hb, hml, hown, hts⟩
  have hS : va_S A s.heap s.heap [] := va_S.rf
  have hl := lv_entry ([.int a0]) (n := 1) (Nat.le_of_ble_eq_true rfl)
  rw [lg_entry_eq]
  generalize (lg_sl ([.int a0]) ++ List.replicate (1 - (lg_sl ([.int a0])).length) Slot.unset).toArray = ls at hl ⊢
  have hl : lv_has ls 1 [(0, .int a0)] := hl
  refine lv_iload_n hx hb dX8_firstPart_0 rfl (lv_at hl 0 rfl) ?_
  refine lv_if_eq (tgt := 9) hx hb dX8_firstPart_1 (by decide) (fun c1 => ?_) (fun c1 => ?_)
  · have hw := hw.1 c1
    refine lv_iconst (v := (0 : Int32)) hx hb dX8_firstPart_9 (by decide) ?_
    exact g_iret hx hb hr hlocks hw hP hS dX8_firstPart_10
  · have hw := hw.2 c1
    refine lv_bipush (v := (26 : Int32)) hx hb dX8_firstPart_4 (by decide) ?_
    refine lv_goto (tgt := 10) hx hb dX8_firstPart_6 (by decide) ?_
    exact g_iret hx hb hr hlocks hw hP hS dX8_firstPart_10
abbrev rmX8_endOfParts : Room := { frames := 0, cells := 0, slots := 0, locals := 0 }
theorem eX8_endOfParts : yX8_endOfParts.cls = RX8 ∧ yX8_endOfParts.cls ≠ "java/lang/invoke/MethodHandle" ∧ yX8_endOfParts.cls ≠ "java/lang/invoke/VarHandle" ∧ (parseMethodDescriptor yX8_endOfParts.desc).map (fun d => d.parameters.length) = some 1 := by decide +kernel
set_option maxHeartbeats 4000000 in
set_option maxRecDepth 100000 in
theorem qX8_endOfParts (l : Launch) (D : va_G) (E : Nat → ClassId) (ad : Nat → Nat → Nat) (L : List (Nat × Nat)) (A : Nat → Prop) (hF : gF E ad L A) (hLx : gLx L) (M0 : gW) (a0 : Int32)  (K : Int32 → gW → Prop) (hw : wX8_endOfParts M0 a0 K) : Met l yX8_endOfParts wsX8_endOfParts rmX8_endOfParts (va_Pc [.int a0] (gPre D E ad L M0)) (gQi D E ad L A K) 0 0 A := by
  refine Met.ofW (cc := cX8_endOfParts) (maxL := 1) (ret := (some .int)) (by decide) rfl ?_
  intro p e s m args below meth c s₁ B hml hv
  obtain ⟨rfl, hP, hK, hN⟩ := hv
  have hx := B.exec
  have hb := B.bytes
  have hr := B.returns
  have hts := atoms_spec (ws := wsX8_endOfParts) B.pre
  have hown : s.vm.findClass RX8 = some m.cls := findClass_of_methodNamed B.named
  have hlocks := B.notSynchronized
  have S : CallFix p m c cX8_endOfParts 1 s ([.int a0] : List Value).toArray wsX8_endOfParts RX8 := ⟨hx, hb, hml, hown, hts⟩
  have hS : va_S A s.heap s.heap [] := va_S.rf
  have hl := lv_entry ([.int a0]) (n := 1) (Nat.le_of_ble_eq_true rfl)
  rw [lg_entry_eq]
  generalize (lg_sl ([.int a0]) ++ List.replicate (1 - (lg_sl ([.int a0])).length) Slot.unset).toArray = ls at hl ⊢
  have hl : lv_has ls 1 [(0, .int a0)] := hl
  refine lv_iload_n hx hb dX8_endOfParts_0 rfl (lv_at hl 0 rfl) ?_
  refine lv_if_eq (tgt := 10) hx hb dX8_endOfParts_1 (by decide) (fun c1 => ?_) (fun c1 => ?_)
  · have hw := hw.1 c1
    refine lv_bipush (v := (26 : Int32)) hx hb dX8_endOfParts_10 (by decide) ?_
    exact g_iret hx hb hr hlocks hw hP hS dX8_endOfParts_12
  · have hw := hw.2 c1
    refine lv_sipush (v := (702 : Int32)) hx hb dX8_endOfParts_4 (by decide) ?_
    refine lv_goto (tgt := 12) hx hb dX8_endOfParts_7 (by decide) ?_
    exact g_iret hx hb hr hlocks hw hP hS dX8_endOfParts_12
abbrev rmX8_worst : Room := { frames := 5, cells := 0, slots := 0, locals := 114 }
theorem eX8_worst : yX8_worst.cls = RX8 ∧ yX8_worst.cls ≠ "java/lang/invoke/MethodHandle" ∧ yX8_worst.cls ≠ "java/lang/invoke/VarHandle" ∧ (parseMethodDescriptor yX8_worst.desc).map (fun d => d.parameters.length) = some 2 := by decide +kernel
theorem iX8_worst_X8 : ∀ w ∈ wsX80, w ∈ wsX8_worst := fun _ h => List.mem_cons_of_mem _ (List.mem_append_left _ (List.mem_append_left _ (List.mem_append_left _ (List.mem_append_right _ (h)))))
theorem mX8_worst_1 : Cond.fieldLink RX8 46 "PracticeSheets" "ranking" "LPracticeSheets$Ranking;" ∈ wsX8_worst := List.mem_of_getElem? (i := 1) rfl
theorem mX8_worst_2 : Cond.fieldLink RX8 12 "PracticeSheets" "now" "LPracticeSheets$State;" ∈ wsX8_worst := List.mem_of_getElem? (i := 2) rfl
theorem iX8_worst_X4 : ∀ w ∈ wsX40, w ∈ wsX8_worst := fun _ h => List.mem_cons_of_mem _ (List.mem_append_left _ (List.mem_append_left _ (List.mem_append_right _ (h))))
set_option maxHeartbeats 4000000 in
set_option maxRecDepth 100000 in
theorem qX8_worst (l : Launch) (D : va_G) (E : Nat → ClassId) (ad : Nat → Nat → Nat) (L : List (Nat × Nat)) (A : Nat → Prop) (hF : gF E ad L A) (hLx : gLx L) (M0 : gW) (a1 : Int32) (a2 : Int32)  (K : Int32 → gW → Prop) (hw : wX8_worst M0 a1 a2 K) : Met l yX8_worst wsX8_worst rmX8_worst (va_Pc [.ref (ad 0 0), .int a1, .int a2] (gPre D E ad L M0)) (gQi D E ad L A K) 0 0 A := by
  refine Met.ofW (cc := cX8_worst) (maxL := 5) (ret := (some .int)) (by decide) rfl ?_
  intro p e s m args below meth c s₁ B hml hv
  obtain ⟨rfl, hP, hK, hN⟩ := hv
  have hx := B.exec
  have hb := B.bytes
  have hr := B.returns
  have hts := atoms_spec (ws := wsX8_worst) B.pre
  have hown : s.vm.findClass RX8 = some m.cls := findClass_of_methodNamed B.named
  have hlocks := B.notSynchronized
  have S : CallFix p m c cX8_worst 5 s ([.ref (ad 0 0), .int a1, .int a2] : List Value).toArray wsX8_worst RX8 := ⟨hx, hb, hml, hown, hts⟩
  have hS : va_S A s.heap s.heap [] := va_S.rf
  have hl := lv_entry ([.ref (ad 0 0), .int a1, .int a2]) (n := 5) (Nat.le_of_ble_eq_true rfl)
  rw [lg_entry_eq]
  generalize (lg_sl ([.ref (ad 0 0), .int a1, .int a2]) ++ List.replicate (5 - (lg_sl ([.ref (ad 0 0), .int a1, .int a2])).length) Slot.unset).toArray = ls at hl ⊢
  have hl : lv_has ls 5 [(0, .ref (ad 0 0)), (1, .int a1), (2, .int a2)] := hl
  refine lv_iload_n hx hb dX8_worst_0 rfl (lv_at hl 2 rfl) ?_
  refine lv_if_ge (tgt := 7) hx hb dX8_worst_1 (by decide) (fun c1 => ?_) (fun c1 => ?_)
  · have hw := hw.1 c1
    refine lv_iload_n hx hb dX8_worst_7 rfl (lv_at hl 1 rfl) ?_
    refine g_Si (As := [.int a1]) (rest := []) S hK hN hP hS (qX8_firstPart l D E ad L A hF hLx M0 a1  _ hw) (va_cwS 1 hts gX8_worst_X8_firstPart rfl rfl rfl eX8_firstPart.2 ⟨Nat.le_of_ble_eq_true rfl, Nat.le_of_ble_eq_true rfl⟩) rfl rfl hl.1 (Nat.le_of_ble_eq_true rfl) ⟨Nat.zero_le _, Nat.zero_le _⟩ dX8_worst_8 (fun r3 M2 H locs hw hP hS => ?_)
    refine lv_istore_n (lv' := [(3, .int r3), (0, .ref (ad 0 0)), (1, .int a1), (2, .int a2)]) hx hb dX8_worst_11 rfl hl (by decide) rfl (fun ls hl => ?_)
    refine lv_aload_n hx hb dX8_worst_12 rfl (lv_at hl 1 rfl) ?_
    refine g_get (v := .ref (ad 19 0)) hx hb hts hown hK hP (hLx.h (f := 0) (by decide)) (gC0 _ _ _ _) gcl8 iX8_worst_X8 6 (by decide) mX8_worst_1 rfl rfl dX8_worst_13 ?_
    refine lv_aload_n hx hb dX8_worst_16 rfl (lv_at hl 1 rfl) ?_
    refine g_get (v := .ref (ad 1 0)) hx hb hts hown hK hP (hLx.h (f := 0) (by decide)) (gC0 _ _ _ _) gcl8 iX8_worst_X8 0 (by decide) mX8_worst_2 rfl rfl dX8_worst_17 ?_
    refine g_getN (v := .ref (ad 2 0)) hx hb hts hown hK hN hP (hLx.h (f := 1) (by decide)) (gC1 _ _ _ _) gcl4 iX8_worst_X4 0 (by decide) 15 rfl rfl rfl dX8_worst_20 ?_
    refine lv_iload_n hx hb dX8_worst_23 rfl (lv_at hl 0 rfl) ?_
    refine lv_iload_n hx hb dX8_worst_24 rfl (lv_at hl 2 rfl) ?_
    refine g_Si (As := [.int a1]) (rest := [.int r3, .ref (ad 2 0), .ref (ad 19 0)]) S hK hN hP hS (qX8_endOfParts l D E ad L A hF hLx M2 a1  _ hw) (va_cwS 1 hts gX8_worst_X8_endOfParts rfl rfl rfl eX8_endOfParts.2 ⟨Nat.le_of_ble_eq_true rfl, Nat.le_of_ble_eq_true rfl⟩) rfl rfl hl.1 (Nat.le_of_ble_eq_true rfl) ⟨Nat.zero_le _, Nat.zero_le _⟩ dX8_worst_25 (fun r5 M4 H locs hw hP hS => ?_)
    refine lv_iload_n hx hb dX8_worst_28 rfl (lv_at hl 3 rfl) ?_
    refine g_Vi (As := [.ref (ad 2 0), .int r3, .int r5, .int a2]) (rest := []) S hK hN hP hS (qX2_partAt l D E ad L A hF hLx M4 0 r3 r5 a2 (by decide) _ hw) (cwV 4 hts gX8_worst_X2_partAt rfl rfl rfl eX2_partAt ⟨Nat.le_of_ble_eq_true rfl, Nat.le_of_ble_eq_true rfl⟩) (hLx.h (f := 19) (by decide)) (gC19 _ _ _ _) gcl2 rfl rfl rfl hl.1 (Nat.le_of_ble_eq_true rfl) ⟨Nat.zero_le _, Nat.zero_le _⟩ dX8_worst_29 (fun r7 M6 H locs hw hP hS => ?_)
    refine lv_istore (lv' := [(4, .int r7), (3, .int r3), (0, .ref (ad 0 0)), (1, .int a1), (2, .int a2)]) hx hb dX8_worst_32 hl (by decide) rfl (fun ls hl => ?_)
    refine lv_iload hx hb dX8_worst_34 (lv_at hl 0 rfl) ?_
    refine lv_bipush (v := (-5 : Int32)) hx hb dX8_worst_36 (by decide) ?_
    refine lv_icmp_ne (tgt := 46) hx hb dX8_worst_38 (by decide) (fun c8 => ?_) (fun c8 => ?_)
    · have hw := hw.2 c8
      refine lv_iload hx hb dX8_worst_46 (lv_at hl 0 rfl) ?_
      refine lv_iload_n hx hb dX8_worst_48 rfl (lv_at hl 1 rfl) ?_
      refine lv_isub hx hb dX8_worst_49 ?_
      exact g_iret hx hb hr hlocks hw hP hS dX8_worst_50
    · have hw := hw.1 c8
      refine lv_bipush (v := (-5 : Int32)) hx hb dX8_worst_41 (by decide) ?_
      refine lv_goto (tgt := 50) hx hb dX8_worst_43 (by decide) ?_
      exact g_iret hx hb hr hlocks hw hP hS dX8_worst_50
  · have hw := hw.2 c1
    refine lv_bipush (v := (-2 : Int32)) hx hb dX8_worst_4 (by decide) ?_
    exact g_iret hx hb hr hlocks hw hP hS dX8_worst_6
abbrev rmX8_missing : Room := { frames := 3, cells := 0, slots := 0, locals := 62 }
theorem eX8_missing : yX8_missing.cls = RX8 ∧ yX8_missing.cls ≠ "java/lang/invoke/MethodHandle" ∧ yX8_missing.cls ≠ "java/lang/invoke/VarHandle" ∧ (parseMethodDescriptor yX8_missing.desc).map (fun d => d.parameters.length) = some 1 := by decide +kernel
theorem iX8_missing_X8 : ∀ w ∈ wsX80, w ∈ wsX8_missing := fun _ h => List.mem_cons_of_mem _ (List.mem_append_left _ (List.mem_append_left _ (List.mem_append_left _ (List.mem_append_left _ (List.mem_append_right _ (h))))))
theorem mX8_missing_1 : Cond.fieldLink RX8 12 "PracticeSheets" "now" "LPracticeSheets$State;" ∈ wsX8_missing := List.mem_of_getElem? (i := 1) rfl
theorem iX8_missing_X4 : ∀ w ∈ wsX40, w ∈ wsX8_missing := fun _ h => List.mem_cons_of_mem _ (List.mem_append_left _ (List.mem_append_left _ (List.mem_append_left _ (List.mem_append_right _ (h)))))
set_option maxHeartbeats 4000000 in
set_option maxRecDepth 100000 in
theorem qX8_missing (l : Launch) (D : va_G) (E : Nat → ClassId) (ad : Nat → Nat → Nat) (L : List (Nat × Nat)) (A : Nat → Prop) (hF : gF E ad L A) (hLx : gLx L) (M0 : gW) (a1 : Int32)  (K : Int32 → gW → Prop) (hw : wX8_missing M0 a1 K) : Met l yX8_missing wsX8_missing rmX8_missing (va_Pc [.ref (ad 0 0), .int a1] (gPre D E ad L M0)) (gQi D E ad L A K) 0 0 A := by
  refine Met.ofW (cc := cX8_missing) (maxL := 5) (ret := (some .int)) (by decide) rfl ?_
  intro p e s m args below meth c s₁ B hml hv
  obtain ⟨rfl, hP, hK, hN⟩ := hv
  have hx := B.exec
  have hb := B.bytes
  have hr := B.returns
  have hts := atoms_spec (ws := wsX8_missing) B.pre
  have hown : s.vm.findClass RX8 = some m.cls := findClass_of_methodNamed B.named
  have hlocks := B.notSynchronized
  have S : CallFix p m c cX8_missing 5 s ([.ref (ad 0 0), .int a1] : List Value).toArray wsX8_missing RX8 := ⟨hx, hb, hml, hown, hts⟩
  have hS : va_S A s.heap s.heap [] := va_S.rf
  have hl := lv_entry ([.ref (ad 0 0), .int a1]) (n := 5) (Nat.le_of_ble_eq_true rfl)
  rw [lg_entry_eq]
  generalize (lg_sl ([.ref (ad 0 0), .int a1]) ++ List.replicate (5 - (lg_sl ([.ref (ad 0 0), .int a1])).length) Slot.unset).toArray = ls at hl ⊢
  have hl : lv_has ls 5 [(0, .ref (ad 0 0)), (1, .int a1)] := hl
  refine lv_iload_n hx hb dX8_missing_0 rfl (lv_at hl 1 rfl) ?_
  refine g_Si (As := [.int a1]) (rest := []) S hK hN hP hS (qX8_endOfParts l D E ad L A hF hLx M0 a1  _ hw) (va_cwS 1 hts gX8_missing_X8_endOfParts rfl rfl rfl eX8_endOfParts.2 ⟨Nat.le_of_ble_eq_true rfl, Nat.le_of_ble_eq_true rfl⟩) rfl rfl hl.1 (Nat.le_of_ble_eq_true rfl) ⟨Nat.zero_le _, Nat.zero_le _⟩ dX8_missing_1 (fun r2 M1 H locs hw hP hS => ?_)
  refine lv_istore_n (lv' := [(2, .int r2), (0, .ref (ad 0 0)), (1, .int a1)]) hx hb dX8_missing_4 rfl hl (by decide) rfl (fun ls hl => ?_)
  refine lv_iconst (v := (0 : Int32)) hx hb dX8_missing_5 (by decide) ?_
  refine lv_istore_n (lv' := [(3, .int (0 : Int32)), (2, .int r2), (0, .ref (ad 0 0)), (1, .int a1)]) hx hb dX8_missing_6 rfl hl (by decide) rfl (fun ls hl => ?_)
  refine lv_iload_n hx hb dX8_missing_7 rfl (lv_at hl 3 rfl) ?_
  refine g_Si (As := [.int a1]) (rest := []) S hK hN hP hS (qX8_firstPart l D E ad L A hF hLx M1 a1  _ hw) (va_cwS 1 hts gX8_missing_X8_firstPart rfl rfl rfl eX8_firstPart.2 ⟨Nat.le_of_ble_eq_true rfl, Nat.le_of_ble_eq_true rfl⟩) rfl rfl hl.1 (Nat.le_of_ble_eq_true rfl) ⟨Nat.zero_le _, Nat.zero_le _⟩ dX8_missing_8 (fun r4 M3 H locs hw hP hS => ?_)
  refine lv_istore (lv' := [(4, .int r4), (3, .int (0 : Int32)), (2, .int r2), (0, .ref (ad 0 0)), (1, .int a1)]) hx hb dX8_missing_11 hl (by decide) rfl (fun ls hl => ?_)
  obtain ⟨n19, hw⟩ := hw
  have hxX8_missing_L13_0 : ∀ (M16 : gW) (x3_17 : Int32) (x4_18 : Int32) (H : Heap) (locs : List Loc) (ls : Array Slot), (K x3_17 M16) → va_P D vwCl (gL E ad L M16) H → va_S A s.heap H locs → lv_has ls 5 [(0, .ref (ad 0 0)), (1, .int a1), (2, .int r2), (3, .int x3_17), (4, .int x4_18)] → W p l e (headSpec wsX8_missing rmX8_missing).room s m (([.ref (ad 0 0), .int a1] : List Value).toArray) below meth c H locs 0 0 (MQ below (gQi D E ad L A K) ([.ref (ad 0 0), .int a1] : List Value).toArray s 0 0 A) (F0 m 58 ls []) := by
    intro M16 x3_17 x4_18 H locs ls hw hP hS hl
    refine lv_iload_n hx hb dX8_missing_58 rfl (lv_at hl 3 rfl) ?_
    exact g_iret hx hb hr hlocks hw hP hS dX8_missing_59
  have hlX8_missing_L13 : ∀ (n5 : Nat) (M6 : gW) (x3_7 : Int32) (x4_8 : Int32) (H : Heap) (locs : List Loc) (ls : Array Slot), wX8_missing_L13 r2 (fun M16 x3_17 x4_18 => (K x3_17 M16)) n5 M6 x3_7 x4_8 → va_P D vwCl (gL E ad L M6) H → va_S A s.heap H locs → lv_has ls 5 [(0, .ref (ad 0 0)), (1, .int a1), (2, .int r2), (3, .int x3_7), (4, .int x4_8)] → W p l e (headSpec wsX8_missing rmX8_missing).room s m (([.ref (ad 0 0), .int a1] : List Value).toArray) below meth c H locs 0 0 (MQ below (gQi D E ad L A K) ([.ref (ad 0 0), .int a1] : List Value).toArray s 0 0 A) (F0 m 13 ls []) := by
    intro n5
    induction n5 with
    | zero => intro M6 x3_7 x4_8 H locs ls hw; exact False.elim hw
    | succ n5 ihn5 =>
      intro M6 x3_7 x4_8 H locs ls hw hP hS hl
      refine lv_iload hx hb dX8_missing_13 (lv_at hl 4 rfl) ?_
      refine lv_iload_n hx hb dX8_missing_15 rfl (lv_at hl 2 rfl) ?_
      refine lv_icmp_ge (tgt := 58) hx hb dX8_missing_16 (by decide) (fun c9 => ?_) (fun c9 => ?_)
      · have hw := hw.1 c9
        exact hxX8_missing_L13_0 _ _ _ _ _ _ hw hP hS (lv_sub hl [0, 1, 2, 3, 4] rfl)
      · have hw := hw.2 c9
        refine lv_aload_n hx hb dX8_missing_19 rfl (lv_at hl 0 rfl) ?_
        refine g_get (v := .ref (ad 1 0)) hx hb hts hown hK hP (hLx.h (f := 0) (by decide)) (gC0 _ _ _ _) gcl8 iX8_missing_X8 0 (by decide) mX8_missing_1 rfl rfl dX8_missing_20 ?_
        refine g_getN (v := .ref (ad 2 0)) hx hb hts hown hK hN hP (hLx.h (f := 1) (by decide)) (gC1 _ _ _ _) gcl4 iX8_missing_X4 0 (by decide) 15 rfl rfl rfl dX8_missing_23 ?_
        refine lv_iload hx hb dX8_missing_26 (lv_at hl 4 rfl) ?_
        refine g_Vi (As := [.int x4_8]) (rest := []) S hK hN hP hS (qX1_needOf l D E ad L A hF hLx M6 0 x4_8 (by decide) _ hw) (cwV 1 hts gX8_missing_X1_needOf rfl rfl rfl eX1_needOf ⟨Nat.le_of_ble_eq_true rfl, Nat.le_of_ble_eq_true rfl⟩) (hLx.h (f := 2) (by decide)) (gC2 _ _ _ _) gcl1 rfl rfl rfl hl.1 (Nat.le_of_ble_eq_true rfl) ⟨Nat.zero_le _, Nat.zero_le _⟩ dX8_missing_28 (fun r11 M10 H locs hw hP hS => ?_)
        refine lv_if_le (tgt := 52) hx hb dX8_missing_31 (by decide) (fun c12 => ?_) (fun c12 => ?_)
        · have hw := hw.1 c12
          refine lv_iinc (v := (x4_8 + (1 : Int32))) (lv' := [(4, .int (x4_8 + (1 : Int32))), (0, .ref (ad 0 0)), (1, .int a1), (2, .int r2), (3, .int x3_7)]) hx hb dX8_missing_52 hl (k := 4) rfl rfl (by decide) rfl (fun ls hl => ?_)
          refine lv_goto (tgt := 13) hx hb dX8_missing_55 (by decide) ?_
          exact ihn5 _ _ _ _ _ _ hw hP hS (lv_sub hl [1, 2, 3, 4, 0] rfl)
        · have hw := hw.2 c12
          refine lv_aload_n hx hb dX8_missing_34 rfl (lv_at hl 0 rfl) ?_
          refine g_get (v := .ref (ad 1 0)) hx hb hts hown hK hP (hLx.h (f := 0) (by decide)) (gC0 _ _ _ _) gcl8 iX8_missing_X8 0 (by decide) mX8_missing_1 rfl rfl dX8_missing_35 ?_
          refine g_getN (v := .ref (ad 5 0)) hx hb hts hown hK hN hP (hLx.h (f := 1) (by decide)) (gC1 _ _ _ _) gcl4 iX8_missing_X4 1 (by decide) 18 rfl rfl rfl dX8_missing_38 ?_
          refine lv_iload hx hb dX8_missing_41 (lv_at hl 4 rfl) ?_
          refine g_Vi (As := [.int x4_8]) (rest := []) S hK hN hP hS (qX7_howManyHave l D E ad L A hF hLx M10 0 x4_8 (by decide) _ hw) (cwV 1 hts gX8_missing_X7_howManyHave rfl rfl rfl eX7_howManyHave ⟨Nat.le_of_ble_eq_true rfl, Nat.le_of_ble_eq_true rfl⟩) (hLx.h (f := 5) (by decide)) (gC5 _ _ _ _) gcl7 rfl rfl rfl hl.1 (Nat.le_of_ble_eq_true rfl) ⟨Nat.zero_le _, Nat.zero_le _⟩ dX8_missing_43 (fun r14 M13 H locs hw hP hS => ?_)
          refine lv_if_ne (tgt := 52) hx hb dX8_missing_46 (by decide) (fun c15 => ?_) (fun c15 => ?_)
          · have hw := hw.2 c15
            refine lv_iinc (v := (x4_8 + (1 : Int32))) (lv' := [(4, .int (x4_8 + (1 : Int32))), (0, .ref (ad 0 0)), (1, .int a1), (2, .int r2), (3, .int x3_7)]) hx hb dX8_missing_52 hl (k := 4) rfl rfl (by decide) rfl (fun ls hl => ?_)
            refine lv_goto (tgt := 13) hx hb dX8_missing_55 (by decide) ?_
            exact ihn5 _ _ _ _ _ _ hw hP hS (lv_sub hl [1, 2, 3, 4, 0] rfl)
          · have hw := hw.1 c15
            refine lv_iinc (v := (x3_7 + (1 : Int32))) (lv' := [(3, .int (x3_7 + (1 : Int32))), (0, .ref (ad 0 0)), (1, .int a1), (2, .int r2), (4, .int x4_8)]) hx hb dX8_missing_49 hl (k := 3) rfl rfl (by decide) rfl (fun ls hl => ?_)
            refine lv_iinc (v := (x4_8 + (1 : Int32))) (lv' := [(4, .int (x4_8 + (1 : Int32))), (3, .int (x3_7 + (1 : Int32))), (0, .ref (ad 0 0)), (1, .int a1), (2, .int r2)]) hx hb dX8_missing_52 hl (k := 4) rfl rfl (by decide) rfl (fun ls hl => ?_)
            refine lv_goto (tgt := 13) hx hb dX8_missing_55 (by decide) ?_
            exact ihn5 _ _ _ _ _ _ hw hP hS (lv_sub hl [2, 3, 4, 1, 0] rfl)
  exact hlX8_missing_L13 n19 _ _ _ _ _ _ hw hP hS (lv_sub hl [3, 4, 2, 1, 0] rfl)
abbrev rmX8_sheetsTo : Room := { frames := 6, cells := 0, slots := 0, locals := 138 }
theorem eX8_sheetsTo : yX8_sheetsTo.cls = RX8 ∧ yX8_sheetsTo.cls ≠ "java/lang/invoke/MethodHandle" ∧ yX8_sheetsTo.cls ≠ "java/lang/invoke/VarHandle" ∧ (parseMethodDescriptor yX8_sheetsTo.desc).map (fun d => d.parameters.length) = some 2 := by decide +kernel
theorem iX8_sheetsTo_X8 : ∀ w ∈ wsX80, w ∈ wsX8_sheetsTo := fun _ h => List.mem_cons_of_mem _ (List.mem_append_left _ (List.mem_append_left _ (List.mem_append_left _ (List.mem_append_left _ (List.mem_append_left _ (List.mem_append_right _ (h)))))))
theorem mX8_sheetsTo_1 : Cond.fieldLink RX8 19 "PracticeSheets" "trial" "LPracticeSheets$State;" ∈ wsX8_sheetsTo := List.mem_of_getElem? (i := 1) rfl
theorem mX8_sheetsTo_2 : Cond.fieldLink RX8 12 "PracticeSheets" "now" "LPracticeSheets$State;" ∈ wsX8_sheetsTo := List.mem_of_getElem? (i := 2) rfl
theorem mX8_sheetsTo_3 : Cond.fieldLink RX8 39 "PracticeSheets" "plan" "LPracticeSheets$Sheet;" ∈ wsX8_sheetsTo := List.mem_of_getElem? (i := 3) rfl
theorem iX8_sheetsTo_X3 : ∀ w ∈ wsX30, w ∈ wsX8_sheetsTo := fun _ h => List.mem_cons_of_mem _ (List.mem_append_left _ (List.mem_append_left _ (List.mem_append_left _ (List.mem_append_left _ (List.mem_append_right _ (h))))))
set_option maxHeartbeats 4000000 in
set_option maxRecDepth 100000 in
theorem qX8_sheetsTo (l : Launch) (D : va_G) (E : Nat → ClassId) (ad : Nat → Nat → Nat) (L : List (Nat × Nat)) (A : Nat → Prop) (hF : gF E ad L A) (hLx : gLx L) (M0 : gW) (a1 : Int32) (a2 : Int32)  (K : Int32 → gW → Prop) (hw : wX8_sheetsTo M0 a1 a2 K) : Met l yX8_sheetsTo wsX8_sheetsTo rmX8_sheetsTo (va_Pc [.ref (ad 0 0), .int a1, .int a2] (gPre D E ad L M0)) (gQi D E ad L A K) 0 0 A := by
  refine Met.ofW (cc := cX8_sheetsTo) (maxL := 4) (ret := (some .int)) (by decide) rfl ?_
  intro p e s m args below meth c s₁ B hml hv
  obtain ⟨rfl, hP, hK, hN⟩ := hv
  have hx := B.exec
  have hb := B.bytes
  have hr := B.returns
  have hts := atoms_spec (ws := wsX8_sheetsTo) B.pre
  have hown : s.vm.findClass RX8 = some m.cls := findClass_of_methodNamed B.named
  have hlocks := B.notSynchronized
  have S : CallFix p m c cX8_sheetsTo 4 s ([.ref (ad 0 0), .int a1, .int a2] : List Value).toArray wsX8_sheetsTo RX8 := ⟨hx, hb, hml, hown, hts⟩
  have hS : va_S A s.heap s.heap [] := va_S.rf
  have hl := lv_entry ([.ref (ad 0 0), .int a1, .int a2]) (n := 4) (Nat.le_of_ble_eq_true rfl)
  rw [lg_entry_eq]
  generalize (lg_sl ([.ref (ad 0 0), .int a1, .int a2]) ++ List.replicate (4 - (lg_sl ([.ref (ad 0 0), .int a1, .int a2])).length) Slot.unset).toArray = ls at hl ⊢
  have hl : lv_has ls 4 [(0, .ref (ad 0 0)), (1, .int a1), (2, .int a2)] := hl
  refine lv_iload_n hx hb dX8_sheetsTo_0 rfl (lv_at hl 1 rfl) ?_
  refine g_Si (As := [.int a1]) (rest := []) S hK hN hP hS (qX8_areLines l D E ad L A hF hLx M0 a1  _ hw) (va_cwS 1 hts gX8_sheetsTo_X8_areLines rfl rfl rfl eX8_areLines.2 ⟨Nat.le_of_ble_eq_true rfl, Nat.le_of_ble_eq_true rfl⟩) rfl rfl hl.1 (Nat.le_of_ble_eq_true rfl) ⟨Nat.zero_le _, Nat.zero_le _⟩ dX8_sheetsTo_1 (fun r2 M1 H locs hw hP hS => ?_)
  refine lv_if_eq (tgt := 17) hx hb dX8_sheetsTo_4 (by decide) (fun c3 => ?_) (fun c3 => ?_)
  · have hw := hw.1 c3
    refine lv_bipush (v := (-2 : Int32)) hx hb dX8_sheetsTo_17 (by decide) ?_
    exact g_iret hx hb hr hlocks hw hP hS dX8_sheetsTo_19
  · have hw := hw.2 c3
    refine lv_iload_n hx hb dX8_sheetsTo_7 rfl (lv_at hl 2 rfl) ?_
    refine lv_if_lt (tgt := 17) hx hb dX8_sheetsTo_8 (by decide) (fun c4 => ?_) (fun c4 => ?_)
    · have hw := hw.1 c4
      refine lv_bipush (v := (-2 : Int32)) hx hb dX8_sheetsTo_17 (by decide) ?_
      exact g_iret hx hb hr hlocks hw hP hS dX8_sheetsTo_19
    · have hw := hw.2 c4
      refine lv_iload_n hx hb dX8_sheetsTo_11 rfl (lv_at hl 2 rfl) ?_
      refine lv_bipush (v := (99 : Int32)) hx hb dX8_sheetsTo_12 (by decide) ?_
      refine lv_icmp_le (tgt := 20) hx hb dX8_sheetsTo_14 (by decide) (fun c5 => ?_) (fun c5 => ?_)
      · have hw := hw.1 c5
        refine lv_aload_n hx hb dX8_sheetsTo_20 rfl (lv_at hl 0 rfl) ?_
        refine g_get (v := .ref (ad 1 2)) hx hb hts hown hK hP (hLx.h (f := 0) (by decide)) (gC0 _ _ _ _) gcl8 iX8_sheetsTo_X8 2 (by decide) mX8_sheetsTo_1 rfl rfl dX8_sheetsTo_21 ?_
        refine lv_aload_n hx hb dX8_sheetsTo_24 rfl (lv_at hl 0 rfl) ?_
        refine g_get (v := .ref (ad 1 0)) hx hb hts hown hK hP (hLx.h (f := 0) (by decide)) (gC0 _ _ _ _) gcl8 iX8_sheetsTo_X8 0 (by decide) mX8_sheetsTo_2 rfl rfl dX8_sheetsTo_25 ?_
        refine g_Vv (As := [.ref (ad 1 0)]) (rest := []) S hK hN hP hS (qX4_copyFrom l D E ad L A hF hLx M1 2 0 (by decide) (by decide) _ hw) (cwV 1 hts gX8_sheetsTo_X4_copyFrom rfl rfl rfl eX4_copyFrom ⟨Nat.le_of_ble_eq_true rfl, Nat.le_of_ble_eq_true rfl⟩) (hLx.h (f := 1) (by decide)) (gC1 _ _ _ _) gcl4 rfl rfl rfl hl.1 (Nat.le_of_ble_eq_true rfl) ⟨Nat.zero_le _, Nat.zero_le _⟩ dX8_sheetsTo_28 (fun M6 H locs hw hP hS => ?_)
        refine lv_iconst (v := (0 : Int32)) hx hb dX8_sheetsTo_31 (by decide) ?_
        refine lv_istore_n (lv' := [(3, .int (0 : Int32)), (0, .ref (ad 0 0)), (1, .int a1), (2, .int a2)]) hx hb dX8_sheetsTo_32 rfl hl (by decide) rfl (fun ls hl => ?_)
        obtain ⟨n19, hw⟩ := hw
        have hxX8_sheetsTo_L33_0 : ∀ (M17 : gW) (x3_18 : Int32) (H : Heap) (locs : List Loc) (ls : Array Slot), (K (-5 : Int32) M17) → va_P D vwCl (gL E ad L M17) H → va_S A s.heap H locs → lv_has ls 4 [(0, .ref (ad 0 0)), (1, .int a1), (2, .int a2), (3, .int x3_18)] → W p l e (headSpec wsX8_sheetsTo rmX8_sheetsTo).room s m (([.ref (ad 0 0), .int a1, .int a2] : List Value).toArray) below meth c H locs 0 0 (MQ below (gQi D E ad L A K) ([.ref (ad 0 0), .int a1, .int a2] : List Value).toArray s 0 0 A) (F0 m 94 ls []) := by
          intro M17 x3_18 H locs ls hw hP hS hl
          refine lv_bipush (v := (-5 : Int32)) hx hb dX8_sheetsTo_94 (by decide) ?_
          exact g_iret hx hb hr hlocks hw hP hS dX8_sheetsTo_96
        have hlX8_sheetsTo_L33 : ∀ (n7 : Nat) (M8 : gW) (x3_9 : Int32) (H : Heap) (locs : List Loc) (ls : Array Slot), wX8_sheetsTo_L33 a1 a2 K (fun M17 x3_18 => (K (-5 : Int32) M17)) n7 M8 x3_9 → va_P D vwCl (gL E ad L M8) H → va_S A s.heap H locs → lv_has ls 4 [(0, .ref (ad 0 0)), (1, .int a1), (2, .int a2), (3, .int x3_9)] → W p l e (headSpec wsX8_sheetsTo rmX8_sheetsTo).room s m (([.ref (ad 0 0), .int a1, .int a2] : List Value).toArray) below meth c H locs 0 0 (MQ below (gQi D E ad L A K) ([.ref (ad 0 0), .int a1, .int a2] : List Value).toArray s 0 0 A) (F0 m 33 ls []) := by
          intro n7
          induction n7 with
          | zero => intro M8 x3_9 H locs ls hw; exact False.elim hw
          | succ n7 ihn7 =>
            intro M8 x3_9 H locs ls hw hP hS hl
            refine lv_iload_n hx hb dX8_sheetsTo_33 rfl (lv_at hl 3 rfl) ?_
            refine lv_bipush (v := (20 : Int32)) hx hb dX8_sheetsTo_34 (by decide) ?_
            refine lv_icmp_gt (tgt := 94) hx hb dX8_sheetsTo_36 (by decide) (fun c10 => ?_) (fun c10 => ?_)
            · have hw := hw.1 c10
              exact hxX8_sheetsTo_L33_0 _ _ _ _ _ hw hP hS (lv_sub hl [0, 1, 2, 3] rfl)
            · have hw := hw.2 c10
              refine lv_aload_n hx hb dX8_sheetsTo_39 rfl (lv_at hl 0 rfl) ?_
              refine g_get (v := .ref (ad 1 2)) hx hb hts hown hK hP (hLx.h (f := 0) (by decide)) (gC0 _ _ _ _) gcl8 iX8_sheetsTo_X8 2 (by decide) mX8_sheetsTo_1 rfl rfl dX8_sheetsTo_40 ?_
              refine g_Vi (As := []) (rest := []) S hK hN hP hS (qX4_greatestNeedOfWords l D E ad L A hF hLx M8 2 (by decide) _ hw) (cwV 0 hts gX8_sheetsTo_X4_greatestNeedOfWords rfl rfl rfl eX4_greatestNeedOfWords ⟨Nat.le_of_ble_eq_true rfl, Nat.le_of_ble_eq_true rfl⟩) (hLx.h (f := 1) (by decide)) (gC1 _ _ _ _) gcl4 rfl rfl rfl hl.1 (Nat.le_of_ble_eq_true rfl) ⟨Nat.zero_le _, Nat.zero_le _⟩ dX8_sheetsTo_43 (fun r12 M11 H locs hw hP hS => ?_)
              refine lv_iload_n hx hb dX8_sheetsTo_46 rfl (lv_at hl 2 rfl) ?_
              refine lv_icmp_gt (tgt := 52) hx hb dX8_sheetsTo_47 (by decide) (fun c13 => ?_) (fun c13 => ?_)
              · have hw := hw.1 c13
                refine lv_aload_n hx hb dX8_sheetsTo_52 rfl (lv_at hl 0 rfl) ?_
                refine g_get (v := .ref (ad 14 0)) hx hb hts hown hK hP (hLx.h (f := 0) (by decide)) (gC0 _ _ _ _) gcl8 iX8_sheetsTo_X8 5 (by decide) mX8_sheetsTo_3 rfl rfl dX8_sheetsTo_53 ?_
                refine lv_aload_n hx hb dX8_sheetsTo_56 rfl (lv_at hl 0 rfl) ?_
                refine g_get (v := .ref (ad 1 2)) hx hb hts hown hK hP (hLx.h (f := 0) (by decide)) (gC0 _ _ _ _) gcl8 iX8_sheetsTo_X8 2 (by decide) mX8_sheetsTo_1 rfl rfl dX8_sheetsTo_57 ?_
                refine lv_iload_n hx hb dX8_sheetsTo_60 rfl (lv_at hl 1 rfl) ?_
                refine g_Vv (As := [.ref (ad 1 2), .int a1]) (rest := []) S hK hN hP hS (qX3_choose l D E ad L A hF hLx M11 2 a1 (by decide) _ hw) (cwV 2 hts gX8_sheetsTo_X3_choose rfl rfl rfl eX3_choose ⟨Nat.le_of_ble_eq_true rfl, Nat.le_of_ble_eq_true rfl⟩) (hLx.h (f := 14) (by decide)) (gC14 _ _ _ _) gcl3 rfl rfl rfl hl.1 (Nat.le_of_ble_eq_true rfl) ⟨Nat.zero_le _, Nat.zero_le _⟩ dX8_sheetsTo_61 (fun M14 H locs hw hP hS => ?_)
                refine lv_aload_n hx hb dX8_sheetsTo_64 rfl (lv_at hl 0 rfl) ?_
                refine g_get (v := .ref (ad 14 0)) hx hb hts hown hK hP (hLx.h (f := 0) (by decide)) (gC0 _ _ _ _) gcl8 iX8_sheetsTo_X8 5 (by decide) mX8_sheetsTo_3 rfl rfl dX8_sheetsTo_65 ?_
                refine g_getN (v := .int (M14 14 0 4)) hx hb hts hown hK hN hP (hLx.h (f := 14) (by decide)) (gC14 _ _ _ _) gcl3 iX8_sheetsTo_X3 4 (by decide) 31 rfl rfl rfl dX8_sheetsTo_68 ?_
                refine lv_if_ne (tgt := 77) hx hb dX8_sheetsTo_71 (by decide) (fun c15 => ?_) (fun c15 => ?_)
                · have hw := hw.2 c15
                  refine lv_aload_n hx hb dX8_sheetsTo_77 rfl (lv_at hl 0 rfl) ?_
                  refine g_get (v := .ref (ad 1 2)) hx hb hts hown hK hP (hLx.h (f := 0) (by decide)) (gC0 _ _ _ _) gcl8 iX8_sheetsTo_X8 2 (by decide) mX8_sheetsTo_1 rfl rfl dX8_sheetsTo_78 ?_
                  refine lv_aload_n hx hb dX8_sheetsTo_81 rfl (lv_at hl 0 rfl) ?_
                  refine g_get (v := .ref (ad 14 0)) hx hb hts hown hK hP (hLx.h (f := 0) (by decide)) (gC0 _ _ _ _) gcl8 iX8_sheetsTo_X8 5 (by decide) mX8_sheetsTo_3 rfl rfl dX8_sheetsTo_82 ?_
                  refine g_Vv (As := [.ref (ad 14 0)]) (rest := []) S hK hN hP hS (qX4_practise l D E ad L A hF hLx M14 2 (by decide) _ hw) (cwV 1 hts gX8_sheetsTo_X4_practise rfl rfl rfl eX4_practise ⟨Nat.le_of_ble_eq_true rfl, Nat.le_of_ble_eq_true rfl⟩) (hLx.h (f := 1) (by decide)) (gC1 _ _ _ _) gcl4 rfl rfl rfl hl.1 (Nat.le_of_ble_eq_true rfl) ⟨Nat.zero_le _, Nat.zero_le _⟩ dX8_sheetsTo_85 (fun M16 H locs hw hP hS => ?_)
                  refine lv_iinc (v := (x3_9 + (1 : Int32))) (lv' := [(3, .int (x3_9 + (1 : Int32))), (0, .ref (ad 0 0)), (1, .int a1), (2, .int a2)]) hx hb dX8_sheetsTo_88 hl (k := 3) rfl rfl (by decide) rfl (fun ls hl => ?_)
                  refine lv_goto (tgt := 33) hx hb dX8_sheetsTo_91 (by decide) ?_
                  exact ihn7 _ _ _ _ _ hw hP hS (lv_sub hl [1, 2, 3, 0] rfl)
                · have hw := hw.1 c15
                  refine lv_bipush (v := (-5 : Int32)) hx hb dX8_sheetsTo_74 (by decide) ?_
                  exact g_iret hx hb hr hlocks hw hP hS dX8_sheetsTo_76
              · have hw := hw.2 c13
                refine lv_iload_n hx hb dX8_sheetsTo_50 rfl (lv_at hl 3 rfl) ?_
                exact g_iret hx hb hr hlocks hw hP hS dX8_sheetsTo_51
        exact hlX8_sheetsTo_L33 n19 _ _ _ _ _ hw hP hS (lv_sub hl [1, 2, 3, 0] rfl)
      · have hw := hw.2 c5
        refine lv_bipush (v := (-2 : Int32)) hx hb dX8_sheetsTo_17 (by decide) ?_
        exact g_iret hx hb hr hlocks hw hP hS dX8_sheetsTo_19
abbrev rmX8_count : Room := { frames := 4, cells := 0, slots := 0, locals := 86 }
theorem eX8_count : yX8_count.cls = RX8 ∧ yX8_count.cls ≠ "java/lang/invoke/MethodHandle" ∧ yX8_count.cls ≠ "java/lang/invoke/VarHandle" ∧ (parseMethodDescriptor yX8_count.desc).map (fun d => d.parameters.length) = some 1 := by decide +kernel
theorem iX8_count_X8 : ∀ w ∈ wsX80, w ∈ wsX8_count := fun _ h => List.mem_cons_of_mem _ (List.mem_append_left _ (List.mem_append_left _ (List.mem_append_left _ (List.mem_append_left _ (List.mem_append_left _ (List.mem_append_right _ (h)))))))
theorem mX8_count_1 : Cond.fieldLink RX8 12 "PracticeSheets" "now" "LPracticeSheets$State;" ∈ wsX8_count := List.mem_of_getElem? (i := 1) rfl
theorem iX8_count_X4 : ∀ w ∈ wsX40, w ∈ wsX8_count := fun _ h => List.mem_cons_of_mem _ (List.mem_append_left _ (List.mem_append_left _ (List.mem_append_left _ (List.mem_append_left _ (List.mem_append_right _ (h))))))
theorem iX8_count_X7 : ∀ w ∈ wsX70, w ∈ wsX8_count := fun _ h => List.mem_cons_of_mem _ (List.mem_append_left _ (List.mem_append_left _ (List.mem_append_left _ (List.mem_append_right _ (h)))))
theorem mX8_count_2 : Cond.fieldLink RX8 25 "PracticeSheets" "history" "LPracticeSheets$History;" ∈ wsX8_count := List.mem_of_getElem? (i := 2) rfl
theorem iX8_count_X0 : ∀ w ∈ wsX00, w ∈ wsX8_count := fun _ h => List.mem_cons_of_mem _ (List.mem_append_left _ (List.mem_append_left _ (List.mem_append_right _ (h))))
theorem mX8_count_3 : Cond.fieldLink RX8 32 "PracticeSheets" "text" "LPracticeSheets$Text;" ∈ wsX8_count := List.mem_of_getElem? (i := 3) rfl
theorem iX8_count_X5 : ∀ w ∈ wsX50, w ∈ wsX8_count := fun _ h => List.mem_cons_of_mem _ (List.mem_append_left _ (List.mem_append_right _ (h)))
set_option maxHeartbeats 4000000 in
set_option maxRecDepth 100000 in
theorem qX8_count (l : Launch) (D : va_G) (E : Nat → ClassId) (ad : Nat → Nat → Nat) (L : List (Nat × Nat)) (A : Nat → Prop) (hF : gF E ad L A) (hLx : gLx L) (M0 : gW) (a1 : Int32)  (K : Int32 → gW → Prop) (hw : wX8_count M0 a1 K) : Met l yX8_count wsX8_count rmX8_count (va_Pc [.ref (ad 0 0), .int a1] (gPre D E ad L M0)) (gQi D E ad L A K) 0 0 A := by
  refine Met.ofW (cc := cX8_count) (maxL := 2) (ret := (some .int)) (by decide) rfl ?_
  intro p e s m args below meth c s₁ B hml hv
  obtain ⟨rfl, hP, hK, hN⟩ := hv
  have hx := B.exec
  have hb := B.bytes
  have hr := B.returns
  have hts := atoms_spec (ws := wsX8_count) B.pre
  have hown : s.vm.findClass RX8 = some m.cls := findClass_of_methodNamed B.named
  have hlocks := B.notSynchronized
  have S : CallFix p m c cX8_count 2 s ([.ref (ad 0 0), .int a1] : List Value).toArray wsX8_count RX8 := ⟨hx, hb, hml, hown, hts⟩
  have hS : va_S A s.heap s.heap [] := va_S.rf
  have hl := lv_entry ([.ref (ad 0 0), .int a1]) (n := 2) (Nat.le_of_ble_eq_true rfl)
  rw [lg_entry_eq]
  generalize (lg_sl ([.ref (ad 0 0), .int a1]) ++ List.replicate (2 - (lg_sl ([.ref (ad 0 0), .int a1])).length) Slot.unset).toArray = ls at hl ⊢
  have hl : lv_has ls 2 [(0, .ref (ad 0 0)), (1, .int a1)] := hl
  refine lv_iload_n hx hb dX8_count_0 rfl (lv_at hl 1 rfl) ?_
  by_cases c1 : a1 = (0 : Int32)
  · have hw := hw.1 c1
    refine g_swK (tgt := 64) hx hb dX8_count_1 0 c1 (by decide) (by decide) rfl (by decide) ?_
    refine lv_aload_n hx hb dX8_count_64 rfl (lv_at hl 0 rfl) ?_
    refine g_get (v := .ref (ad 1 0)) hx hb hts hown hK hP (hLx.h (f := 0) (by decide)) (gC0 _ _ _ _) gcl8 iX8_count_X8 0 (by decide) mX8_count_1 rfl rfl dX8_count_65 ?_
    refine g_getN (v := .ref (ad 5 0)) hx hb hts hown hK hN hP (hLx.h (f := 1) (by decide)) (gC1 _ _ _ _) gcl4 iX8_count_X4 1 (by decide) 18 rfl rfl rfl dX8_count_68 ?_
    refine g_getN (v := .int (M0 5 0 1)) hx hb hts hown hK hN hP (hLx.h (f := 5) (by decide)) (gC5 _ _ _ _) gcl7 iX8_count_X7 1 (by decide) 14 rfl rfl rfl dX8_count_71 ?_
    exact g_iret hx hb hr hlocks hw hP hS dX8_count_74
  · 
    by_cases c2 : a1 = (1 : Int32)
    · have hw := hw.2.1 c2
      refine g_swK (tgt := 75) hx hb dX8_count_1 1 c2 (by decide) (by decide) rfl (by decide) ?_
      refine lv_aload_n hx hb dX8_count_75 rfl (lv_at hl 0 rfl) ?_
      refine g_get (v := .ref (ad 1 0)) hx hb hts hown hK hP (hLx.h (f := 0) (by decide)) (gC0 _ _ _ _) gcl8 iX8_count_X8 0 (by decide) mX8_count_1 rfl rfl dX8_count_76 ?_
      refine g_getN (v := .int (M0 1 0 2)) hx hb hts hown hK hN hP (hLx.h (f := 1) (by decide)) (gC1 _ _ _ _) gcl4 iX8_count_X4 2 (by decide) 19 rfl rfl rfl dX8_count_79 ?_
      exact g_iret hx hb hr hlocks hw hP hS dX8_count_82
    · 
      by_cases c3 : a1 = (2 : Int32)
      · have hw := hw.2.2.1 c3
        refine g_swK (tgt := 83) hx hb dX8_count_1 2 c3 (by decide) (by decide) rfl (by decide) ?_
        refine lv_aload_n hx hb dX8_count_83 rfl (lv_at hl 0 rfl) ?_
        refine g_get (v := .ref (ad 1 0)) hx hb hts hown hK hP (hLx.h (f := 0) (by decide)) (gC0 _ _ _ _) gcl8 iX8_count_X8 0 (by decide) mX8_count_1 rfl rfl dX8_count_84 ?_
        refine g_getN (v := .int (M0 1 0 3)) hx hb hts hown hK hN hP (hLx.h (f := 1) (by decide)) (gC1 _ _ _ _) gcl4 iX8_count_X4 3 (by decide) 20 rfl rfl rfl dX8_count_87 ?_
        exact g_iret hx hb hr hlocks hw hP hS dX8_count_90
      · 
        by_cases c4 : a1 = (3 : Int32)
        · have hw := hw.2.2.2.1 c4
          refine g_swK (tgt := 91) hx hb dX8_count_1 3 c4 (by decide) (by decide) rfl (by decide) ?_
          refine lv_bipush (v := (26 : Int32)) hx hb dX8_count_91 (by decide) ?_
          refine lv_aload_n hx hb dX8_count_93 rfl (lv_at hl 0 rfl) ?_
          refine g_get (v := .ref (ad 1 0)) hx hb hts hown hK hP (hLx.h (f := 0) (by decide)) (gC0 _ _ _ _) gcl8 iX8_count_X8 0 (by decide) mX8_count_1 rfl rfl dX8_count_94 ?_
          refine g_getN (v := .ref (ad 2 0)) hx hb hts hown hK hN hP (hLx.h (f := 1) (by decide)) (gC1 _ _ _ _) gcl4 iX8_count_X4 0 (by decide) 15 rfl rfl rfl dX8_count_97 ?_
          refine lv_iconst (v := (0 : Int32)) hx hb dX8_count_100 (by decide) ?_
          refine lv_bipush (v := (26 : Int32)) hx hb dX8_count_101 (by decide) ?_
          refine g_Vi (As := [.int (0 : Int32), .int (26 : Int32)]) (rest := [.int (26 : Int32)]) S hK hN hP hS (qX1_triedFrom l D E ad L A hF hLx M0 0 (0 : Int32) (26 : Int32) (by decide) _ hw) (cwV 2 hts gX8_count_X1_triedFrom rfl rfl rfl eX1_triedFrom ⟨Nat.le_of_ble_eq_true rfl, Nat.le_of_ble_eq_true rfl⟩) (hLx.h (f := 2) (by decide)) (gC2 _ _ _ _) gcl1 rfl rfl rfl hl.1 (Nat.le_of_ble_eq_true rfl) ⟨Nat.zero_le _, Nat.zero_le _⟩ dX8_count_103 (fun r6 M5 H locs hw hP hS => ?_)
          refine lv_isub hx hb dX8_count_106 ?_
          exact g_iret hx hb hr hlocks hw hP hS dX8_count_107
        · 
          by_cases c7 : a1 = (4 : Int32)
          · have hw := hw.2.2.2.2.1 c7
            refine g_swK (tgt := 108) hx hb dX8_count_1 4 c7 (by decide) (by decide) rfl (by decide) ?_
            refine lv_aload_n hx hb dX8_count_108 rfl (lv_at hl 0 rfl) ?_
            refine g_get (v := .ref (ad 1 0)) hx hb hts hown hK hP (hLx.h (f := 0) (by decide)) (gC0 _ _ _ _) gcl8 iX8_count_X8 0 (by decide) mX8_count_1 rfl rfl dX8_count_109 ?_
            refine g_getN (v := .ref (ad 2 0)) hx hb hts hown hK hN hP (hLx.h (f := 1) (by decide)) (gC1 _ _ _ _) gcl4 iX8_count_X4 0 (by decide) 15 rfl rfl rfl dX8_count_112 ?_
            refine lv_bipush (v := (26 : Int32)) hx hb dX8_count_115 (by decide) ?_
            refine lv_sipush (v := (702 : Int32)) hx hb dX8_count_117 (by decide) ?_
            refine g_Vi (As := [.int (26 : Int32), .int (702 : Int32)]) (rest := []) S hK hN hP hS (qX1_triedFrom l D E ad L A hF hLx M0 0 (26 : Int32) (702 : Int32) (by decide) _ hw) (cwV 2 hts gX8_count_X1_triedFrom rfl rfl rfl eX1_triedFrom ⟨Nat.le_of_ble_eq_true rfl, Nat.le_of_ble_eq_true rfl⟩) (hLx.h (f := 2) (by decide)) (gC2 _ _ _ _) gcl1 rfl rfl rfl hl.1 (Nat.le_of_ble_eq_true rfl) ⟨Nat.zero_le _, Nat.zero_le _⟩ dX8_count_120 (fun r9 M8 H locs hw hP hS => ?_)
            exact g_iret hx hb hr hlocks hw hP hS dX8_count_123
          · 
            by_cases c10 : a1 = (5 : Int32)
            · have hw := hw.2.2.2.2.2.1 c10
              refine g_swK (tgt := 124) hx hb dX8_count_1 5 c10 (by decide) (by decide) rfl (by decide) ?_
              refine lv_aload_n hx hb dX8_count_124 rfl (lv_at hl 0 rfl) ?_
              refine g_get (v := .ref (ad 1 0)) hx hb hts hown hK hP (hLx.h (f := 0) (by decide)) (gC0 _ _ _ _) gcl8 iX8_count_X8 0 (by decide) mX8_count_1 rfl rfl dX8_count_125 ?_
              refine g_getN (v := .ref (ad 2 0)) hx hb hts hown hK hN hP (hLx.h (f := 1) (by decide)) (gC1 _ _ _ _) gcl4 iX8_count_X4 0 (by decide) 15 rfl rfl rfl dX8_count_128 ?_
              refine lv_iconst (v := (0 : Int32)) hx hb dX8_count_131 (by decide) ?_
              refine lv_bipush (v := (26 : Int32)) hx hb dX8_count_132 (by decide) ?_
              refine g_Vi (As := [.int (0 : Int32), .int (26 : Int32)]) (rest := []) S hK hN hP hS (qX1_greatestNeedFrom l D E ad L A hF hLx M0 0 (0 : Int32) (26 : Int32) (by decide) _ hw) (cwV 2 hts gX8_count_X1_greatestNeedFrom rfl rfl rfl eX1_greatestNeedFrom ⟨Nat.le_of_ble_eq_true rfl, Nat.le_of_ble_eq_true rfl⟩) (hLx.h (f := 2) (by decide)) (gC2 _ _ _ _) gcl1 rfl rfl rfl hl.1 (Nat.le_of_ble_eq_true rfl) ⟨Nat.zero_le _, Nat.zero_le _⟩ dX8_count_134 (fun r12 M11 H locs hw hP hS => ?_)
              exact g_iret hx hb hr hlocks hw hP hS dX8_count_137
            · 
              by_cases c13 : a1 = (6 : Int32)
              · have hw := hw.2.2.2.2.2.2.1 c13
                refine g_swK (tgt := 138) hx hb dX8_count_1 6 c13 (by decide) (by decide) rfl (by decide) ?_
                refine lv_aload_n hx hb dX8_count_138 rfl (lv_at hl 0 rfl) ?_
                refine g_get (v := .ref (ad 1 0)) hx hb hts hown hK hP (hLx.h (f := 0) (by decide)) (gC0 _ _ _ _) gcl8 iX8_count_X8 0 (by decide) mX8_count_1 rfl rfl dX8_count_139 ?_
                refine g_getN (v := .ref (ad 2 0)) hx hb hts hown hK hN hP (hLx.h (f := 1) (by decide)) (gC1 _ _ _ _) gcl4 iX8_count_X4 0 (by decide) 15 rfl rfl rfl dX8_count_142 ?_
                refine lv_bipush (v := (26 : Int32)) hx hb dX8_count_145 (by decide) ?_
                refine lv_sipush (v := (702 : Int32)) hx hb dX8_count_147 (by decide) ?_
                refine g_Vi (As := [.int (26 : Int32), .int (702 : Int32)]) (rest := []) S hK hN hP hS (qX1_greatestNeedFrom l D E ad L A hF hLx M0 0 (26 : Int32) (702 : Int32) (by decide) _ hw) (cwV 2 hts gX8_count_X1_greatestNeedFrom rfl rfl rfl eX1_greatestNeedFrom ⟨Nat.le_of_ble_eq_true rfl, Nat.le_of_ble_eq_true rfl⟩) (hLx.h (f := 2) (by decide)) (gC2 _ _ _ _) gcl1 rfl rfl rfl hl.1 (Nat.le_of_ble_eq_true rfl) ⟨Nat.zero_le _, Nat.zero_le _⟩ dX8_count_150 (fun r15 M14 H locs hw hP hS => ?_)
                exact g_iret hx hb hr hlocks hw hP hS dX8_count_153
              · 
                by_cases c16 : a1 = (7 : Int32)
                · have hw := hw.2.2.2.2.2.2.2.1 c16
                  refine g_swK (tgt := 154) hx hb dX8_count_1 7 c16 (by decide) (by decide) rfl (by decide) ?_
                  refine lv_aload_n hx hb dX8_count_154 rfl (lv_at hl 0 rfl) ?_
                  refine g_get (v := .ref (ad 1 0)) hx hb hts hown hK hP (hLx.h (f := 0) (by decide)) (gC0 _ _ _ _) gcl8 iX8_count_X8 0 (by decide) mX8_count_1 rfl rfl dX8_count_155 ?_
                  refine g_getN (v := .int (M0 1 0 4)) hx hb hts hown hK hN hP (hLx.h (f := 1) (by decide)) (gC1 _ _ _ _) gcl4 iX8_count_X4 4 (by decide) 22 rfl rfl rfl dX8_count_158 ?_
                  exact g_iret hx hb hr hlocks hw hP hS dX8_count_161
                · 
                  by_cases c17 : a1 = (8 : Int32)
                  · have hw := hw.2.2.2.2.2.2.2.2.1 c17
                    refine g_swK (tgt := 162) hx hb dX8_count_1 8 c17 (by decide) (by decide) rfl (by decide) ?_
                    refine lv_aload_n hx hb dX8_count_162 rfl (lv_at hl 0 rfl) ?_
                    refine g_get (v := .ref (ad 1 0)) hx hb hts hown hK hP (hLx.h (f := 0) (by decide)) (gC0 _ _ _ _) gcl8 iX8_count_X8 0 (by decide) mX8_count_1 rfl rfl dX8_count_163 ?_
                    refine g_getN (v := .int (M0 1 0 5)) hx hb hts hown hK hN hP (hLx.h (f := 1) (by decide)) (gC1 _ _ _ _) gcl4 iX8_count_X4 5 (by decide) 23 rfl rfl rfl dX8_count_166 ?_
                    exact g_iret hx hb hr hlocks hw hP hS dX8_count_169
                  · 
                    by_cases c18 : a1 = (9 : Int32)
                    · have hw := hw.2.2.2.2.2.2.2.2.2.1 c18
                      refine g_swK (tgt := 170) hx hb dX8_count_1 9 c18 (by decide) (by decide) rfl (by decide) ?_
                      refine lv_aload_n hx hb dX8_count_170 rfl (lv_at hl 0 rfl) ?_
                      refine g_get (v := .ref (ad 1 0)) hx hb hts hown hK hP (hLx.h (f := 0) (by decide)) (gC0 _ _ _ _) gcl8 iX8_count_X8 0 (by decide) mX8_count_1 rfl rfl dX8_count_171 ?_
                      refine g_getN (v := .int (M0 1 0 6)) hx hb hts hown hK hN hP (hLx.h (f := 1) (by decide)) (gC1 _ _ _ _) gcl4 iX8_count_X4 6 (by decide) 24 rfl rfl rfl dX8_count_174 ?_
                      exact g_iret hx hb hr hlocks hw hP hS dX8_count_177
                    · 
                      by_cases c19 : a1 = (10 : Int32)
                      · have hw := hw.2.2.2.2.2.2.2.2.2.2.1 c19
                        refine g_swK (tgt := 178) hx hb dX8_count_1 10 c19 (by decide) (by decide) rfl (by decide) ?_
                        refine lv_aload_n hx hb dX8_count_178 rfl (lv_at hl 0 rfl) ?_
                        refine g_get (v := .ref (ad 10 0)) hx hb hts hown hK hP (hLx.h (f := 0) (by decide)) (gC0 _ _ _ _) gcl8 iX8_count_X8 3 (by decide) mX8_count_2 rfl rfl dX8_count_179 ?_
                        refine g_getN (v := .int (M0 10 0 1)) hx hb hts hown hK hN hP (hLx.h (f := 10) (by decide)) (gC10 _ _ _ _) gcl0 iX8_count_X0 1 (by decide) 25 rfl rfl rfl dX8_count_182 ?_
                        exact g_iret hx hb hr hlocks hw hP hS dX8_count_185
                      · 
                        by_cases c20 : a1 = (11 : Int32)
                        · have hw := hw.2.2.2.2.2.2.2.2.2.2.2.1 c20
                          refine g_swK (tgt := 186) hx hb dX8_count_1 11 c20 (by decide) (by decide) rfl (by decide) ?_
                          refine lv_aload_n hx hb dX8_count_186 rfl (lv_at hl 0 rfl) ?_
                          refine g_get (v := .ref (ad 12 0)) hx hb hts hown hK hP (hLx.h (f := 0) (by decide)) (gC0 _ _ _ _) gcl8 iX8_count_X8 4 (by decide) mX8_count_3 rfl rfl dX8_count_187 ?_
                          refine g_getN (v := .int (M0 12 0 2)) hx hb hts hown hK hN hP (hLx.h (f := 12) (by decide)) (gC12 _ _ _ _) gcl5 iX8_count_X5 2 (by decide) 26 rfl rfl rfl dX8_count_190 ?_
                          exact g_iret hx hb hr hlocks hw hP hS dX8_count_193
                        · have hw := hw.2.2.2.2.2.2.2.2.2.2.2.2 c1 c2 c3 c4 c7 c10 c13 c16 c17 c18 c19 c20
                          refine lv_tableOut (tgt := 194) hx hb dX8_count_1 (by have z0 := g_ne (i := 0) (by decide) c1; have z1 := g_ne (i := 1) (by decide) c2; have z2 := g_ne (i := 2) (by decide) c3; have z3 := g_ne (i := 3) (by decide) c4; have z4 := g_ne (i := 4) (by decide) c7; have z5 := g_ne (i := 5) (by decide) c10; have z6 := g_ne (i := 6) (by decide) c13; have z7 := g_ne (i := 7) (by decide) c16; have z8 := g_ne (i := 8) (by decide) c17; have z9 := g_ne (i := 9) (by decide) c18; have z10 := g_ne (i := 10) (by decide) c19; have z11 := g_ne (i := 11) (by decide) c20; omega) (by decide) ?_
                          refine lv_bipush (v := (-2 : Int32)) hx hb dX8_count_194 (by decide) ?_
                          exact g_iret hx hb hr hlocks hw hP hS dX8_count_196
abbrev rmX9_in : Room := { frames := 0, cells := 0, slots := 0, locals := 0 }
theorem eX9_in : yX9_in.cls = RX9 ∧ yX9_in.cls ≠ "java/lang/invoke/MethodHandle" ∧ yX9_in.cls ≠ "java/lang/invoke/VarHandle" ∧ (parseMethodDescriptor yX9_in.desc).map (fun d => d.parameters.length) = some 3 := by decide +kernel
set_option maxHeartbeats 4000000 in
set_option maxRecDepth 100000 in
theorem qX9_in (l : Launch) (D : va_G) (E : Nat → ClassId) (ad : Nat → Nat → Nat) (L : List (Nat × Nat)) (A : Nat → Prop) (hF : gF E ad L A) (hLm : gLm L) (M0 : gW) (a0 : Int64) (a2 : Int64) (a4 : Int64)  (K : Int32 → gW → Prop) (hw : wX9_in M0 a0 a2 a4 K) : Met l yX9_in wsX9_in rmX9_in (va_Pc [.long a0, .long a2, .long a4] (gPre D E ad L M0)) (gQi D E ad L A K) 0 0 A := by
  refine Met.ofW (cc := cX9_in) (maxL := 6) (ret := (some .boolean)) (by decide) rfl ?_
  intro p e s m args below meth c s₁ B hml hv
  obtain ⟨rfl, hP, hK, hN⟩ := hv
  have hx := B.exec
  have hb := B.bytes
  have hr := B.returns
  have hts := atoms_spec (ws := wsX9_in) B.pre
  have hown : s.vm.findClass RX9 = some m.cls := findClass_of_methodNamed B.named
  have hlocks := B.notSynchronized
  have S : CallFix p m c cX9_in 6 s ([.long a0, .long a2, .long a4] : List Value).toArray wsX9_in RX9 := ⟨hx, hb, hml, hown, hts⟩
  have hS : va_S A s.heap s.heap [] := va_S.rf
  have hl := lv_entry ([.long a0, .long a2, .long a4]) (n := 6) (Nat.le_of_ble_eq_true rfl)
  rw [lg_entry_eq]
  generalize (lg_sl ([.long a0, .long a2, .long a4]) ++ List.replicate (6 - (lg_sl ([.long a0, .long a2, .long a4])).length) Slot.unset).toArray = ls at hl ⊢
  have hl : lv_has ls 6 [(0, .long a0), (2, .long a2), (4, .long a4)] := hl
  refine lv_lload_n hx hb dX9_in_0 rfl (lv_at hl 0 rfl) ?_
  refine lv_lload_n hx hb dX9_in_1 rfl (lv_at hl 1 rfl) ?_
  refine W.lcmp hx hb dX9_in_2 ?_
  refine lv_if_lt (tgt := 17) hx hb dX9_in_3 (by decide) (fun c1 => ?_) (fun c1 => ?_)
  · have hw := hw.1 c1
    refine lv_iconst (v := (0 : Int32)) hx hb dX9_in_17 (by decide) ?_
    exact g_zret hx hb hr hlocks (by decide) hw hP hS dX9_in_18
  · have hw := hw.2 c1
    refine lv_lload_n hx hb dX9_in_6 rfl (lv_at hl 0 rfl) ?_
    refine lv_lload hx hb dX9_in_7 (lv_at hl 2 rfl) ?_
    refine W.lcmp hx hb dX9_in_9 ?_
    refine lv_if_gt (tgt := 17) hx hb dX9_in_10 (by decide) (fun c2 => ?_) (fun c2 => ?_)
    · have hw := hw.1 c2
      refine lv_iconst (v := (0 : Int32)) hx hb dX9_in_17 (by decide) ?_
      exact g_zret hx hb hr hlocks (by decide) hw hP hS dX9_in_18
    · have hw := hw.2 c2
      refine lv_iconst (v := (1 : Int32)) hx hb dX9_in_13 (by decide) ?_
      refine lv_goto (tgt := 18) hx hb dX9_in_14 (by decide) ?_
      exact g_zret hx hb hr hlocks (by decide) hw hP hS dX9_in_18
abbrev rmX9_copy : Room := { frames := 0, cells := 0, slots := 0, locals := 0 }
theorem eX9_copy : yX9_copy.cls = RX9 ∧ yX9_copy.cls ≠ "java/lang/invoke/MethodHandle" ∧ yX9_copy.cls ≠ "java/lang/invoke/VarHandle" ∧ (parseMethodDescriptor yX9_copy.desc).map (fun d => d.parameters.length) = some 2 := by decide +kernel
set_option maxHeartbeats 4000000 in
set_option maxRecDepth 100000 in
theorem qX9_copy (l : Launch) (D : va_G) (E : Nat → ClassId) (ad : Nat → Nat → Nat) (L : List (Nat × Nat)) (A : Nat → Prop) (hF : gF E ad L A) (hLm : gLm L) (M0 : gW) (k0 : Nat) (k1 : Nat) (hk0 : k0 < gN 22) (hk1 : k1 < gN 22) (K : gW → Prop) (hw : wX9_copy M0 k0 k1 K) : Met l yX9_copy wsX9_copy rmX9_copy (va_Pc [.ref (ad 22 k0), .ref (ad 22 k1)] (gPre D E ad L M0)) (gQv D E ad L A K) 0 0 A := by
  refine Met.ofW (cc := cX9_copy) (maxL := 3) (ret := none) (by decide) rfl ?_
  intro p e s m args below meth c s₁ B hml hv
  obtain ⟨rfl, hP, hK, hN⟩ := hv
  have hx := B.exec
  have hb := B.bytes
  have hr := B.returns
  have hts := atoms_spec (ws := wsX9_copy) B.pre
  have hown : s.vm.findClass RX9 = some m.cls := findClass_of_methodNamed B.named
  have hlocks := B.notSynchronized
  have S : CallFix p m c cX9_copy 3 s ([.ref (ad 22 k0), .ref (ad 22 k1)] : List Value).toArray wsX9_copy RX9 := ⟨hx, hb, hml, hown, hts⟩
  have hS : va_S A s.heap s.heap [] := va_S.rf
  have hl := lv_entry ([.ref (ad 22 k0), .ref (ad 22 k1)]) (n := 3) (Nat.le_of_ble_eq_true rfl)
  rw [lg_entry_eq]
  generalize (lg_sl ([.ref (ad 22 k0), .ref (ad 22 k1)]) ++ List.replicate (3 - (lg_sl ([.ref (ad 22 k0), .ref (ad 22 k1)])).length) Slot.unset).toArray = ls at hl ⊢
  have hl : lv_has ls 3 [(0, .ref (ad 22 k0)), (1, .ref (ad 22 k1))] := hl
  refine lv_iconst (v := (0 : Int32)) hx hb dX9_copy_0 (by decide) ?_
  refine lv_istore_n (lv' := [(2, .int (0 : Int32)), (0, .ref (ad 22 k0)), (1, .ref (ad 22 k1))]) hx hb dX9_copy_1 rfl hl (by decide) rfl (fun ls hl => ?_)
  obtain ⟨n11, hw⟩ := hw
  have hxX9_copy_L2_0 : ∀ (M9 : gW) (x2_10 : Int32) (H : Heap) (locs : List Loc) (ls : Array Slot), (K M9) → va_P D vwCl (gL E ad L M9) H → va_S A s.heap H locs → lv_has ls 3 [(0, .ref (ad 22 k0)), (1, .ref (ad 22 k1)), (2, .int x2_10)] → W p l e (headSpec wsX9_copy rmX9_copy).room s m (([.ref (ad 22 k0), .ref (ad 22 k1)] : List Value).toArray) below meth c H locs 0 0 (MQ below (gQv D E ad L A K) ([.ref (ad 22 k0), .ref (ad 22 k1)] : List Value).toArray s 0 0 A) (F0 m 21 ls []) := by
    intro M9 x2_10 H locs ls hw hP hS hl
    exact g_vret hx hb hr hlocks hw hP hS dX9_copy_21
  have hlX9_copy_L2 : ∀ (n1 : Nat) (M2 : gW) (x2_3 : Int32) (H : Heap) (locs : List Loc) (ls : Array Slot), wX9_copy_L2 k0 k1 (fun M9 x2_10 => (K M9)) n1 M2 x2_3 → va_P D vwCl (gL E ad L M2) H → va_S A s.heap H locs → lv_has ls 3 [(0, .ref (ad 22 k0)), (1, .ref (ad 22 k1)), (2, .int x2_3)] → W p l e (headSpec wsX9_copy rmX9_copy).room s m (([.ref (ad 22 k0), .ref (ad 22 k1)] : List Value).toArray) below meth c H locs 0 0 (MQ below (gQv D E ad L A K) ([.ref (ad 22 k0), .ref (ad 22 k1)] : List Value).toArray s 0 0 A) (F0 m 2 ls []) := by
    intro n1
    induction n1 with
    | zero => intro M2 x2_3 H locs ls hw; exact False.elim hw
    | succ n1 ihn1 =>
      intro M2 x2_3 H locs ls hw hP hS hl
      refine lv_iload_n hx hb dX9_copy_2 rfl (lv_at hl 2 rfl) ?_
      refine lv_sipush (v := (1730 : Int32)) hx hb dX9_copy_3 (by decide) ?_
      refine lv_icmp_ge (tgt := 21) hx hb dX9_copy_6 (by decide) (fun c4 => ?_) (fun c4 => ?_)
      · have hw := hw.1 c4
        exact hxX9_copy_L2_0 _ _ _ _ _ hw hP hS (lv_sub hl [0, 1, 2] rfl)
      · have hw := hw.2 c4
        refine lv_aload_n hx hb dX9_copy_9 rfl (lv_at hl 1 rfl) ?_
        refine lv_iload_n hx hb dX9_copy_10 rfl (lv_at hl 2 rfl) ?_
        refine lv_aload_n hx hb dX9_copy_11 rfl (lv_at hl 0 rfl) ?_
        refine lv_iload_n hx hb dX9_copy_12 rfl (lv_at hl 2 rfl) ?_
        have hb5 := hw.1
        have hw := hw.2
        refine g_iald hx hb hK hP (hLm.h (f := 22) hk0) (gC22 _ _ _ _) hb5 dX9_copy_13 ?_
        have hb6 := hw.1
        have hw := hw.2
        refine g_iast hx hb hF hK hP hS (hLm.h (f := 22) hk1) (fun r => gC22 _ _ _ r) hb6 dX9_copy_14 (fun M7 e8 H locs hP hS => ?_)
        have hw := hw M7 e8
        refine lv_iinc (v := (x2_3 + (1 : Int32))) (lv' := [(2, .int (x2_3 + (1 : Int32))), (0, .ref (ad 22 k0)), (1, .ref (ad 22 k1))]) hx hb dX9_copy_15 hl (k := 2) rfl rfl (by decide) rfl (fun ls hl => ?_)
        refine lv_goto (tgt := 2) hx hb dX9_copy_18 (by decide) ?_
        exact ihn1 _ _ _ _ _ hw hP hS (lv_sub hl [1, 2, 0] rfl)
  exact hlX9_copy_L2 n11 _ _ _ _ _ hw hP hS (lv_sub hl [1, 2, 0] rfl)
abbrev rmX9_remember : Room := { frames := 1, cells := 0, slots := 0, locals := 22 }
theorem eX9_remember : yX9_remember.cls = RX9 ∧ yX9_remember.cls ≠ "java/lang/invoke/MethodHandle" ∧ yX9_remember.cls ≠ "java/lang/invoke/VarHandle" ∧ (parseMethodDescriptor yX9_remember.desc).map (fun d => d.parameters.length) = some 0 := by decide +kernel
theorem iX9_remember_X9 : ∀ w ∈ wsX90, w ∈ wsX9_remember := fun _ h => List.mem_cons_of_mem _ (List.mem_append_right _ (h))
theorem mX9_remember_1 : Cond.fieldLink RX9 7 "PracticeSheetsModel" "all" "[I" ∈ wsX9_remember := List.mem_of_getElem? (i := 1) rfl
theorem mX9_remember_2 : Cond.fieldLink RX9 13 "PracticeSheetsModel" "kept" "[I" ∈ wsX9_remember := List.mem_of_getElem? (i := 2) rfl
set_option maxHeartbeats 4000000 in
set_option maxRecDepth 100000 in
theorem qX9_remember (l : Launch) (D : va_G) (E : Nat → ClassId) (ad : Nat → Nat → Nat) (L : List (Nat × Nat)) (A : Nat → Prop) (hF : gF E ad L A) (hLm : gLm L) (M0 : gW)  (K : gW → Prop) (hw : wX9_remember M0 K) : Met l yX9_remember wsX9_remember rmX9_remember (va_Pc [.ref (ad 21 0)] (gPre D E ad L M0)) (gQv D E ad L A K) 0 0 A := by
  refine Met.ofW (cc := cX9_remember) (maxL := 1) (ret := none) (by decide) rfl ?_
  intro p e s m args below meth c s₁ B hml hv
  obtain ⟨rfl, hP, hK, hN⟩ := hv
  have hx := B.exec
  have hb := B.bytes
  have hr := B.returns
  have hts := atoms_spec (ws := wsX9_remember) B.pre
  have hown : s.vm.findClass RX9 = some m.cls := findClass_of_methodNamed B.named
  have hlocks := B.notSynchronized
  have S : CallFix p m c cX9_remember 1 s ([.ref (ad 21 0)] : List Value).toArray wsX9_remember RX9 := ⟨hx, hb, hml, hown, hts⟩
  have hS : va_S A s.heap s.heap [] := va_S.rf
  have hl := lv_entry ([.ref (ad 21 0)]) (n := 1) (Nat.le_of_ble_eq_true rfl)
  rw [lg_entry_eq]
  generalize (lg_sl ([.ref (ad 21 0)]) ++ List.replicate (1 - (lg_sl ([.ref (ad 21 0)])).length) Slot.unset).toArray = ls at hl ⊢
  have hl : lv_has ls 1 [(0, .ref (ad 21 0))] := hl
  refine lv_aload_n hx hb dX9_remember_0 rfl (lv_at hl 0 rfl) ?_
  refine g_get (v := .ref (ad 22 0)) hx hb hts hown hK hP (hLm.h (f := 21) (by decide)) (gC21 _ _ _ _) gcl9 iX9_remember_X9 0 (by decide) mX9_remember_1 rfl rfl dX9_remember_1 ?_
  refine lv_aload_n hx hb dX9_remember_4 rfl (lv_at hl 0 rfl) ?_
  refine g_get (v := .ref (ad 22 1)) hx hb hts hown hK hP (hLm.h (f := 21) (by decide)) (gC21 _ _ _ _) gcl9 iX9_remember_X9 1 (by decide) mX9_remember_2 rfl rfl dX9_remember_5 ?_
  refine g_Sv (As := [.ref (ad 22 0), .ref (ad 22 1)]) (rest := []) S hK hN hP hS (qX9_copy l D E ad L A hF hLm M0 0 1 (by decide) (by decide) _ hw) (va_cwS 2 hts gX9_remember_X9_copy rfl rfl rfl eX9_copy.2 ⟨Nat.le_of_ble_eq_true rfl, Nat.le_of_ble_eq_true rfl⟩) rfl rfl hl.1 (Nat.le_of_ble_eq_true rfl) ⟨Nat.zero_le _, Nat.zero_le _⟩ dX9_remember_8 (fun M1 H locs hw hP hS => ?_)
  exact g_vret hx hb hr hlocks hw hP hS dX9_remember_11
abbrev rmX9_acted : Room := { frames := 0, cells := 0, slots := 0, locals := 0 }
theorem eX9_acted : yX9_acted.cls = RX9 ∧ yX9_acted.cls ≠ "java/lang/invoke/MethodHandle" ∧ yX9_acted.cls ≠ "java/lang/invoke/VarHandle" ∧ (parseMethodDescriptor yX9_acted.desc).map (fun d => d.parameters.length) = some 1 := by decide +kernel
theorem iX9_acted_X9 : ∀ w ∈ wsX90, w ∈ wsX9_acted := fun _ h => List.mem_cons_of_mem _ (List.mem_append_right _ (h))
theorem mX9_acted_1 : Cond.fieldLink RX9 53 "PracticeSheetsModel" "historyLong" "I" ∈ wsX9_acted := List.mem_of_getElem? (i := 1) rfl
theorem mX9_acted_2 : Cond.fieldLink RX9 19 "PracticeSheetsModel" "history" "[I" ∈ wsX9_acted := List.mem_of_getElem? (i := 2) rfl
theorem mX9_acted_3 : Cond.fieldLink RX9 13 "PracticeSheetsModel" "kept" "[I" ∈ wsX9_acted := List.mem_of_getElem? (i := 3) rfl
set_option maxHeartbeats 4000000 in
set_option maxRecDepth 100000 in
theorem qX9_acted (l : Launch) (D : va_G) (E : Nat → ClassId) (ad : Nat → Nat → Nat) (L : List (Nat × Nat)) (A : Nat → Prop) (hF : gF E ad L A) (hLm : gLm L) (M0 : gW) (a1 : Int32)  (K : Int32 → gW → Prop) (hw : wX9_acted M0 a1 K) : Met l yX9_acted wsX9_acted rmX9_acted (va_Pc [.ref (ad 21 0), .int a1] (gPre D E ad L M0)) (gQi D E ad L A K) 0 0 A := by
  refine Met.ofW (cc := cX9_acted) (maxL := 3) (ret := (some .int)) (by decide) rfl ?_
  intro p e s m args below meth c s₁ B hml hv
  obtain ⟨rfl, hP, hK, hN⟩ := hv
  have hx := B.exec
  have hb := B.bytes
  have hr := B.returns
  have hts := atoms_spec (ws := wsX9_acted) B.pre
  have hown : s.vm.findClass RX9 = some m.cls := findClass_of_methodNamed B.named
  have hlocks := B.notSynchronized
  have S : CallFix p m c cX9_acted 3 s ([.ref (ad 21 0), .int a1] : List Value).toArray wsX9_acted RX9 := ⟨hx, hb, hml, hown, hts⟩
  have hS : va_S A s.heap s.heap [] := va_S.rf
  have hl := lv_entry ([.ref (ad 21 0), .int a1]) (n := 3) (Nat.le_of_ble_eq_true rfl)
  rw [lg_entry_eq]
  generalize (lg_sl ([.ref (ad 21 0), .int a1]) ++ List.replicate (3 - (lg_sl ([.ref (ad 21 0), .int a1])).length) Slot.unset).toArray = ls at hl ⊢
  have hl : lv_has ls 3 [(0, .ref (ad 21 0)), (1, .int a1)] := hl
  refine lv_aload_n hx hb dX9_acted_0 rfl (lv_at hl 0 rfl) ?_
  refine g_get (v := .int (M0 21 0 4)) hx hb hts hown hK hP (hLm.h (f := 21) (by decide)) (gC21 _ _ _ _) gcl9 iX9_acted_X9 4 (by decide) mX9_acted_1 rfl rfl dX9_acted_1 ?_
  refine lv_iconst (v := (4 : Int32)) hx hb dX9_acted_4 (by decide) ?_
  obtain ⟨J2, eJ2⟩ : ∃ J2 : gW → Prop, J2 = (fun M16 => (∃ n29 : Nat, wX9_acted_L51 (fun M25 x2_26 => (∀ M27 : gW, M27 = gU M25 21 0 (upd (M25 21 0) 4 ((M25 21 0 4) + (1 : Int32))) → (K a1 M27))) n29 M16 (0 : Int32))) := ⟨_, rfl⟩
  have hw : ((M0 21 0 4) = (4 : Int32) → (∃ n15 : Nat, wX9_acted_L10 (fun M11 x2_12 => (∀ M13 : gW, M13 = gU M11 21 0 (upd (M11 21 0) 4 ((M11 21 0 4) - (1 : Int32))) → (J2 M13))) n15 M0 (0 : Int32))) ∧ (¬ ((M0 21 0 4) = (4 : Int32)) → (J2 M0)) := by rw [eJ2]; exact hw
  have hJ2 : ∀ (M16 : gW)  (H : Heap) (locs : List Loc) (ls : Array Slot), J2 M16 → va_P D vwCl (gL E ad L M16) H → va_S A s.heap H locs → lv_has ls 3 [(0, .ref (ad 21 0)), (1, .int a1)] → W p l e (headSpec wsX9_acted rmX9_acted).room s m (([.ref (ad 21 0), .int a1] : List Value).toArray) below meth c H locs 0 0 (MQ below (gQi D E ad L A K) ([.ref (ad 21 0), .int a1] : List Value).toArray s 0 0 A) (F0 m 49 ls []) := by
    intro M16 H locs ls hw hP hS hl
    rw [eJ2] at hw
    refine lv_iconst (v := (0 : Int32)) hx hb dX9_acted_49 (by decide) ?_
    refine lv_istore_n (lv' := [(2, .int (0 : Int32)), (0, .ref (ad 21 0)), (1, .int a1)]) hx hb dX9_acted_50 rfl hl (by decide) rfl (fun ls hl => ?_)
    obtain ⟨n29, hw⟩ := hw
    have hxX9_acted_L51_0 : ∀ (M25 : gW) (x2_26 : Int32) (H : Heap) (locs : List Loc) (ls : Array Slot), (∀ M27 : gW, M27 = gU M25 21 0 (upd (M25 21 0) 4 ((M25 21 0 4) + (1 : Int32))) → (K a1 M27)) → va_P D vwCl (gL E ad L M25) H → va_S A s.heap H locs → lv_has ls 3 [(0, .ref (ad 21 0)), (1, .int a1), (2, .int x2_26)] → W p l e (headSpec wsX9_acted rmX9_acted).room s m (([.ref (ad 21 0), .int a1] : List Value).toArray) below meth c H locs 0 0 (MQ below (gQi D E ad L A K) ([.ref (ad 21 0), .int a1] : List Value).toArray s 0 0 A) (F0 m 85 ls []) := by
      intro M25 x2_26 H locs ls hw hP hS hl
      refine lv_aload_n hx hb dX9_acted_85 rfl (lv_at hl 0 rfl) ?_
      refine lv_dup hx hb dX9_acted_86 rfl ?_
      refine g_get (v := .int (M25 21 0 4)) hx hb hts hown hK hP (hLm.h (f := 21) (by decide)) (gC21 _ _ _ _) gcl9 iX9_acted_X9 4 (by decide) mX9_acted_1 rfl rfl dX9_acted_87 ?_
      refine lv_iconst (v := (1 : Int32)) hx hb dX9_acted_90 (by decide) ?_
      refine lv_iadd hx hb dX9_acted_91 ?_
      refine g_put hx hb hF hts hown hK hP hS (hLm.h (f := 21) (by decide)) (gC21 _ _ _ _) gcl9 iX9_acted_X9 tyX9 tyX9_ok nmX9 4 (by decide) mX9_acted_1 rfl rfl rfl rfl (Nat.lt_of_lt_of_eq (by decide : 4 < 19) rfl) rfl dX9_acted_92 (fun M27 e28 H locs hP hS => ?_)
      have hw := hw M27 e28
      refine lv_iload_n hx hb dX9_acted_95 rfl (lv_at hl 1 rfl) ?_
      exact g_iret hx hb hr hlocks hw hP hS dX9_acted_96
    have hlX9_acted_L51 : ∀ (n17 : Nat) (M18 : gW) (x2_19 : Int32) (H : Heap) (locs : List Loc) (ls : Array Slot), wX9_acted_L51 (fun M25 x2_26 => (∀ M27 : gW, M27 = gU M25 21 0 (upd (M25 21 0) 4 ((M25 21 0 4) + (1 : Int32))) → (K a1 M27))) n17 M18 x2_19 → va_P D vwCl (gL E ad L M18) H → va_S A s.heap H locs → lv_has ls 3 [(0, .ref (ad 21 0)), (1, .int a1), (2, .int x2_19)] → W p l e (headSpec wsX9_acted rmX9_acted).room s m (([.ref (ad 21 0), .int a1] : List Value).toArray) below meth c H locs 0 0 (MQ below (gQi D E ad L A K) ([.ref (ad 21 0), .int a1] : List Value).toArray s 0 0 A) (F0 m 51 ls []) := by
      intro n17
      induction n17 with
      | zero => intro M18 x2_19 H locs ls hw; exact False.elim hw
      | succ n17 ihn17 =>
        intro M18 x2_19 H locs ls hw hP hS hl
        refine lv_iload_n hx hb dX9_acted_51 rfl (lv_at hl 2 rfl) ?_
        refine lv_sipush (v := (1730 : Int32)) hx hb dX9_acted_52 (by decide) ?_
        refine lv_icmp_ge (tgt := 85) hx hb dX9_acted_55 (by decide) (fun c20 => ?_) (fun c20 => ?_)
        · have hw := hw.1 c20
          exact hxX9_acted_L51_0 _ _ _ _ _ hw hP hS (lv_sub hl [0, 1, 2] rfl)
        · have hw := hw.2 c20
          refine lv_aload_n hx hb dX9_acted_58 rfl (lv_at hl 0 rfl) ?_
          refine g_get (v := .ref (ad 22 3)) hx hb hts hown hK hP (hLm.h (f := 21) (by decide)) (gC21 _ _ _ _) gcl9 iX9_acted_X9 3 (by decide) mX9_acted_2 rfl rfl dX9_acted_59 ?_
          refine lv_sipush (v := (1730 : Int32)) hx hb dX9_acted_62 (by decide) ?_
          refine lv_aload_n hx hb dX9_acted_65 rfl (lv_at hl 0 rfl) ?_
          refine g_get (v := .int (M18 21 0 4)) hx hb hts hown hK hP (hLm.h (f := 21) (by decide)) (gC21 _ _ _ _) gcl9 iX9_acted_X9 4 (by decide) mX9_acted_1 rfl rfl dX9_acted_66 ?_
          refine lv_imul hx hb dX9_acted_69 ?_
          refine lv_iload_n hx hb dX9_acted_70 rfl (lv_at hl 2 rfl) ?_
          refine lv_iadd hx hb dX9_acted_71 ?_
          refine lv_aload_n hx hb dX9_acted_72 rfl (lv_at hl 0 rfl) ?_
          refine g_get (v := .ref (ad 22 1)) hx hb hts hown hK hP (hLm.h (f := 21) (by decide)) (gC21 _ _ _ _) gcl9 iX9_acted_X9 1 (by decide) mX9_acted_3 rfl rfl dX9_acted_73 ?_
          refine lv_iload_n hx hb dX9_acted_76 rfl (lv_at hl 2 rfl) ?_
          have hb21 := hw.1
          have hw := hw.2
          refine g_iald (n := 1730) hx hb hK hP (hLm.h (f := 22) (by decide)) rfl hb21 dX9_acted_77 ?_
          have hb22 := hw.1
          have hw := hw.2
          refine g_iast (n := 6920) hx hb hF hK hP hS (hLm.h (f := 22) (by decide)) (fun _ => rfl) hb22 dX9_acted_78 (fun M23 e24 H locs hP hS => ?_)
          have hw := hw M23 e24
          refine lv_iinc (v := (x2_19 + (1 : Int32))) (lv' := [(2, .int (x2_19 + (1 : Int32))), (0, .ref (ad 21 0)), (1, .int a1)]) hx hb dX9_acted_79 hl (k := 2) rfl rfl (by decide) rfl (fun ls hl => ?_)
          refine lv_goto (tgt := 51) hx hb dX9_acted_82 (by decide) ?_
          exact ihn17 _ _ _ _ _ hw hP hS (lv_sub hl [1, 2, 0] rfl)
    exact hlX9_acted_L51 n29 _ _ _ _ _ hw hP hS (lv_sub hl [1, 2, 0] rfl)
  refine lv_icmp_ne (tgt := 49) hx hb dX9_acted_5 (by decide) (fun c1 => ?_) (fun c1 => ?_)
  · have hw := hw.2 c1
    exact hJ2 _ _ _ _ hw hP hS (lv_sub hl [0, 1] rfl)
  · have hw := hw.1 c1
    refine lv_iconst (v := (0 : Int32)) hx hb dX9_acted_8 (by decide) ?_
    refine lv_istore_n (lv' := [(2, .int (0 : Int32)), (0, .ref (ad 21 0)), (1, .int a1)]) hx hb dX9_acted_9 rfl hl (by decide) rfl (fun ls hl => ?_)
    obtain ⟨n15, hw⟩ := hw
    have hxX9_acted_L10_0 : ∀ (M11 : gW) (x2_12 : Int32) (H : Heap) (locs : List Loc) (ls : Array Slot), (∀ M13 : gW, M13 = gU M11 21 0 (upd (M11 21 0) 4 ((M11 21 0 4) - (1 : Int32))) → (J2 M13)) → va_P D vwCl (gL E ad L M11) H → va_S A s.heap H locs → lv_has ls 3 [(0, .ref (ad 21 0)), (1, .int a1), (2, .int x2_12)] → W p l e (headSpec wsX9_acted rmX9_acted).room s m (([.ref (ad 21 0), .int a1] : List Value).toArray) below meth c H locs 0 0 (MQ below (gQi D E ad L A K) ([.ref (ad 21 0), .int a1] : List Value).toArray s 0 0 A) (F0 m 39 ls []) := by
      intro M11 x2_12 H locs ls hw hP hS hl
      refine lv_aload_n hx hb dX9_acted_39 rfl (lv_at hl 0 rfl) ?_
      refine lv_dup hx hb dX9_acted_40 rfl ?_
      refine g_get (v := .int (M11 21 0 4)) hx hb hts hown hK hP (hLm.h (f := 21) (by decide)) (gC21 _ _ _ _) gcl9 iX9_acted_X9 4 (by decide) mX9_acted_1 rfl rfl dX9_acted_41 ?_
      refine lv_iconst (v := (1 : Int32)) hx hb dX9_acted_44 (by decide) ?_
      refine lv_isub hx hb dX9_acted_45 ?_
      refine g_put hx hb hF hts hown hK hP hS (hLm.h (f := 21) (by decide)) (gC21 _ _ _ _) gcl9 iX9_acted_X9 tyX9 tyX9_ok nmX9 4 (by decide) mX9_acted_1 rfl rfl rfl rfl (Nat.lt_of_lt_of_eq (by decide : 4 < 19) rfl) rfl dX9_acted_46 (fun M13 e14 H locs hP hS => ?_)
      have hw := hw M13 e14
      exact hJ2 _ _ _ _ hw hP hS (lv_sub hl [0, 1] rfl)
    have hlX9_acted_L10 : ∀ (n3 : Nat) (M4 : gW) (x2_5 : Int32) (H : Heap) (locs : List Loc) (ls : Array Slot), wX9_acted_L10 (fun M11 x2_12 => (∀ M13 : gW, M13 = gU M11 21 0 (upd (M11 21 0) 4 ((M11 21 0 4) - (1 : Int32))) → (J2 M13))) n3 M4 x2_5 → va_P D vwCl (gL E ad L M4) H → va_S A s.heap H locs → lv_has ls 3 [(0, .ref (ad 21 0)), (1, .int a1), (2, .int x2_5)] → W p l e (headSpec wsX9_acted rmX9_acted).room s m (([.ref (ad 21 0), .int a1] : List Value).toArray) below meth c H locs 0 0 (MQ below (gQi D E ad L A K) ([.ref (ad 21 0), .int a1] : List Value).toArray s 0 0 A) (F0 m 10 ls []) := by
      intro n3
      induction n3 with
      | zero => intro M4 x2_5 H locs ls hw; exact False.elim hw
      | succ n3 ihn3 =>
        intro M4 x2_5 H locs ls hw hP hS hl
        refine lv_iload_n hx hb dX9_acted_10 rfl (lv_at hl 2 rfl) ?_
        refine lv_sipush (v := (5190 : Int32)) hx hb dX9_acted_11 (by decide) ?_
        refine lv_icmp_ge (tgt := 39) hx hb dX9_acted_14 (by decide) (fun c6 => ?_) (fun c6 => ?_)
        · have hw := hw.1 c6
          exact hxX9_acted_L10_0 _ _ _ _ _ hw hP hS (lv_sub hl [0, 1, 2] rfl)
        · have hw := hw.2 c6
          refine lv_aload_n hx hb dX9_acted_17 rfl (lv_at hl 0 rfl) ?_
          refine g_get (v := .ref (ad 22 3)) hx hb hts hown hK hP (hLm.h (f := 21) (by decide)) (gC21 _ _ _ _) gcl9 iX9_acted_X9 3 (by decide) mX9_acted_2 rfl rfl dX9_acted_18 ?_
          refine lv_iload_n hx hb dX9_acted_21 rfl (lv_at hl 2 rfl) ?_
          refine lv_aload_n hx hb dX9_acted_22 rfl (lv_at hl 0 rfl) ?_
          refine g_get (v := .ref (ad 22 3)) hx hb hts hown hK hP (hLm.h (f := 21) (by decide)) (gC21 _ _ _ _) gcl9 iX9_acted_X9 3 (by decide) mX9_acted_2 rfl rfl dX9_acted_23 ?_
          refine lv_iload_n hx hb dX9_acted_26 rfl (lv_at hl 2 rfl) ?_
          refine lv_sipush (v := (1730 : Int32)) hx hb dX9_acted_27 (by decide) ?_
          refine lv_iadd hx hb dX9_acted_30 ?_
          have hb7 := hw.1
          have hw := hw.2
          refine g_iald (n := 6920) hx hb hK hP (hLm.h (f := 22) (by decide)) rfl hb7 dX9_acted_31 ?_
          have hb8 := hw.1
          have hw := hw.2
          refine g_iast (n := 6920) hx hb hF hK hP hS (hLm.h (f := 22) (by decide)) (fun _ => rfl) hb8 dX9_acted_32 (fun M9 e10 H locs hP hS => ?_)
          have hw := hw M9 e10
          refine lv_iinc (v := (x2_5 + (1 : Int32))) (lv' := [(2, .int (x2_5 + (1 : Int32))), (0, .ref (ad 21 0)), (1, .int a1)]) hx hb dX9_acted_33 hl (k := 2) rfl rfl (by decide) rfl (fun ls hl => ?_)
          refine lv_goto (tgt := 10) hx hb dX9_acted_36 (by decide) ?_
          exact ihn3 _ _ _ _ _ hw hP hS (lv_sub hl [1, 2, 0] rfl)
    exact hlX9_acted_L10 n15 _ _ _ _ _ hw hP hS (lv_sub hl [1, 2, 0] rfl)
abbrev rmX9_needOf : Room := { frames := 0, cells := 0, slots := 0, locals := 0 }
theorem eX9_needOf : yX9_needOf.cls = RX9 ∧ yX9_needOf.cls ≠ "java/lang/invoke/MethodHandle" ∧ yX9_needOf.cls ≠ "java/lang/invoke/VarHandle" ∧ (parseMethodDescriptor yX9_needOf.desc).map (fun d => d.parameters.length) = some 1 := by decide +kernel
theorem iX9_needOf_X9 : ∀ w ∈ wsX90, w ∈ wsX9_needOf := fun _ h => List.mem_cons_of_mem _ (List.mem_append_right _ (h))
theorem mX9_needOf_1 : Cond.fieldLink RX9 7 "PracticeSheetsModel" "all" "[I" ∈ wsX9_needOf := List.mem_of_getElem? (i := 1) rfl
set_option maxHeartbeats 4000000 in
set_option maxRecDepth 100000 in
theorem qX9_needOf (l : Launch) (D : va_G) (E : Nat → ClassId) (ad : Nat → Nat → Nat) (L : List (Nat × Nat)) (A : Nat → Prop) (hF : gF E ad L A) (hLm : gLm L) (M0 : gW) (a1 : Int32)  (K : Int32 → gW → Prop) (hw : wX9_needOf M0 a1 K) : Met l yX9_needOf wsX9_needOf rmX9_needOf (va_Pc [.ref (ad 21 0), .int a1] (gPre D E ad L M0)) (gQi D E ad L A K) 0 0 A := by
  refine Met.ofW (cc := cX9_needOf) (maxL := 2) (ret := (some .int)) (by decide) rfl ?_
  intro p e s m args below meth c s₁ B hml hv
  obtain ⟨rfl, hP, hK, hN⟩ := hv
  have hx := B.exec
  have hb := B.bytes
  have hr := B.returns
  have hts := atoms_spec (ws := wsX9_needOf) B.pre
  have hown : s.vm.findClass RX9 = some m.cls := findClass_of_methodNamed B.named
  have hlocks := B.notSynchronized
  have S : CallFix p m c cX9_needOf 2 s ([.ref (ad 21 0), .int a1] : List Value).toArray wsX9_needOf RX9 := ⟨hx, hb, hml, hown, hts⟩
  have hS : va_S A s.heap s.heap [] := va_S.rf
  have hl := lv_entry ([.ref (ad 21 0), .int a1]) (n := 2) (Nat.le_of_ble_eq_true rfl)
  rw [lg_entry_eq]
  generalize (lg_sl ([.ref (ad 21 0), .int a1]) ++ List.replicate (2 - (lg_sl ([.ref (ad 21 0), .int a1])).length) Slot.unset).toArray = ls at hl ⊢
  have hl : lv_has ls 2 [(0, .ref (ad 21 0)), (1, .int a1)] := hl
  refine lv_bipush (v := (100 : Int32)) hx hb dX9_needOf_0 (by decide) ?_
  refine lv_aload_n hx hb dX9_needOf_2 rfl (lv_at hl 0 rfl) ?_
  refine g_get (v := .ref (ad 22 0)) hx hb hts hown hK hP (hLm.h (f := 21) (by decide)) (gC21 _ _ _ _) gcl9 iX9_needOf_X9 0 (by decide) mX9_needOf_1 rfl rfl dX9_needOf_3 ?_
  refine lv_sipush (v := (708 : Int32)) hx hb dX9_needOf_6 (by decide) ?_
  refine lv_iload_n hx hb dX9_needOf_9 rfl (lv_at hl 1 rfl) ?_
  refine lv_iadd hx hb dX9_needOf_10 ?_
  have hb1 := hw.1
  have hw := hw.2
  refine g_iald (n := 1730) hx hb hK hP (hLm.h (f := 22) (by decide)) rfl hb1 dX9_needOf_11 ?_
  refine lv_imul hx hb dX9_needOf_12 ?_
  refine lv_aload_n hx hb dX9_needOf_13 rfl (lv_at hl 0 rfl) ?_
  refine g_get (v := .ref (ad 22 0)) hx hb hts hown hK hP (hLm.h (f := 21) (by decide)) (gC21 _ _ _ _) gcl9 iX9_needOf_X9 0 (by decide) mX9_needOf_1 rfl rfl dX9_needOf_14 ?_
  refine lv_bipush (v := (6 : Int32)) hx hb dX9_needOf_17 (by decide) ?_
  refine lv_iload_n hx hb dX9_needOf_19 rfl (lv_at hl 1 rfl) ?_
  refine lv_iadd hx hb dX9_needOf_20 ?_
  have hb2 := hw.1
  have hw := hw.2
  refine g_iald (n := 1730) hx hb hK hP (hLm.h (f := 22) (by decide)) rfl hb2 dX9_needOf_21 ?_
  refine lv_iconst (v := (2 : Int32)) hx hb dX9_needOf_22 (by decide) ?_
  refine lv_iadd hx hb dX9_needOf_23 ?_
  have hb3 := hw.1
  have hw := hw.2
  refine lv_idiv hx hb dX9_needOf_24 hb3 ?_
  exact g_iret hx hb hr hlocks hw hP hS dX9_needOf_25
abbrev rmX9_isUntried : Room := { frames := 0, cells := 0, slots := 0, locals := 0 }
theorem eX9_isUntried : yX9_isUntried.cls = RX9 ∧ yX9_isUntried.cls ≠ "java/lang/invoke/MethodHandle" ∧ yX9_isUntried.cls ≠ "java/lang/invoke/VarHandle" ∧ (parseMethodDescriptor yX9_isUntried.desc).map (fun d => d.parameters.length) = some 1 := by decide +kernel
theorem iX9_isUntried_X9 : ∀ w ∈ wsX90, w ∈ wsX9_isUntried := fun _ h => List.mem_cons_of_mem _ (List.mem_append_right _ (h))
theorem mX9_isUntried_1 : Cond.fieldLink RX9 7 "PracticeSheetsModel" "all" "[I" ∈ wsX9_isUntried := List.mem_of_getElem? (i := 1) rfl
set_option maxHeartbeats 4000000 in
set_option maxRecDepth 100000 in
theorem qX9_isUntried (l : Launch) (D : va_G) (E : Nat → ClassId) (ad : Nat → Nat → Nat) (L : List (Nat × Nat)) (A : Nat → Prop) (hF : gF E ad L A) (hLm : gLm L) (M0 : gW) (a1 : Int32)  (K : Int32 → gW → Prop) (hw : wX9_isUntried M0 a1 K) : Met l yX9_isUntried wsX9_isUntried rmX9_isUntried (va_Pc [.ref (ad 21 0), .int a1] (gPre D E ad L M0)) (gQi D E ad L A K) 0 0 A := by
  refine Met.ofW (cc := cX9_isUntried) (maxL := 2) (ret := (some .boolean)) (by decide) rfl ?_
  intro p e s m args below meth c s₁ B hml hv
  obtain ⟨rfl, hP, hK, hN⟩ := hv
  have hx := B.exec
  have hb := B.bytes
  have hr := B.returns
  have hts := atoms_spec (ws := wsX9_isUntried) B.pre
  have hown : s.vm.findClass RX9 = some m.cls := findClass_of_methodNamed B.named
  have hlocks := B.notSynchronized
  have S : CallFix p m c cX9_isUntried 2 s ([.ref (ad 21 0), .int a1] : List Value).toArray wsX9_isUntried RX9 := ⟨hx, hb, hml, hown, hts⟩
  have hS : va_S A s.heap s.heap [] := va_S.rf
  have hl := lv_entry ([.ref (ad 21 0), .int a1]) (n := 2) (Nat.le_of_ble_eq_true rfl)
  rw [lg_entry_eq]
  generalize (lg_sl ([.ref (ad 21 0), .int a1]) ++ List.replicate (2 - (lg_sl ([.ref (ad 21 0), .int a1])).length) Slot.unset).toArray = ls at hl ⊢
  have hl : lv_has ls 2 [(0, .ref (ad 21 0)), (1, .int a1)] := hl
  refine lv_aload_n hx hb dX9_isUntried_0 rfl (lv_at hl 0 rfl) ?_
  refine g_get (v := .ref (ad 22 0)) hx hb hts hown hK hP (hLm.h (f := 21) (by decide)) (gC21 _ _ _ _) gcl9 iX9_isUntried_X9 0 (by decide) mX9_isUntried_1 rfl rfl dX9_isUntried_1 ?_
  refine lv_bipush (v := (6 : Int32)) hx hb dX9_isUntried_4 (by decide) ?_
  refine lv_iload_n hx hb dX9_isUntried_6 rfl (lv_at hl 1 rfl) ?_
  refine lv_iadd hx hb dX9_isUntried_7 ?_
  have hb1 := hw.1
  have hw := hw.2
  refine g_iald (n := 1730) hx hb hK hP (hLm.h (f := 22) (by decide)) rfl hb1 dX9_isUntried_8 ?_
  refine lv_if_ne (tgt := 16) hx hb dX9_isUntried_9 (by decide) (fun c2 => ?_) (fun c2 => ?_)
  · have hw := hw.2 c2
    refine lv_iconst (v := (0 : Int32)) hx hb dX9_isUntried_16 (by decide) ?_
    exact g_zret hx hb hr hlocks (by decide) hw hP hS dX9_isUntried_17
  · have hw := hw.1 c2
    refine lv_iconst (v := (1 : Int32)) hx hb dX9_isUntried_12 (by decide) ?_
    refine lv_goto (tgt := 17) hx hb dX9_isUntried_13 (by decide) ?_
    exact g_zret hx hb hr hlocks (by decide) hw hP hS dX9_isUntried_17
abbrev rmX9_tries : Room := { frames := 0, cells := 0, slots := 0, locals := 0 }
theorem eX9_tries : yX9_tries.cls = RX9 ∧ yX9_tries.cls ≠ "java/lang/invoke/MethodHandle" ∧ yX9_tries.cls ≠ "java/lang/invoke/VarHandle" ∧ (parseMethodDescriptor yX9_tries.desc).map (fun d => d.parameters.length) = some 2 := by decide +kernel
theorem iX9_tries_X9 : ∀ w ∈ wsX90, w ∈ wsX9_tries := fun _ h => List.mem_cons_of_mem _ (List.mem_append_right _ (h))
theorem mX9_tries_1 : Cond.fieldLink RX9 7 "PracticeSheetsModel" "all" "[I" ∈ wsX9_tries := List.mem_of_getElem? (i := 1) rfl
set_option maxHeartbeats 4000000 in
set_option maxRecDepth 100000 in
theorem qX9_tries (l : Launch) (D : va_G) (E : Nat → ClassId) (ad : Nat → Nat → Nat) (L : List (Nat × Nat)) (A : Nat → Prop) (hF : gF E ad L A) (hLm : gLm L) (M0 : gW) (a1 : Int32) (a2 : Int32)  (K : gW → Prop) (hw : wX9_tries M0 a1 a2 K) : Met l yX9_tries wsX9_tries rmX9_tries (va_Pc [.ref (ad 21 0), .int a1, .int a2] (gPre D E ad L M0)) (gQv D E ad L A K) 0 0 A := by
  refine Met.ofW (cc := cX9_tries) (maxL := 3) (ret := none) (by decide) rfl ?_
  intro p e s m args below meth c s₁ B hml hv
  obtain ⟨rfl, hP, hK, hN⟩ := hv
  have hx := B.exec
  have hb := B.bytes
  have hr := B.returns
  have hts := atoms_spec (ws := wsX9_tries) B.pre
  have hown : s.vm.findClass RX9 = some m.cls := findClass_of_methodNamed B.named
  have hlocks := B.notSynchronized
  have S : CallFix p m c cX9_tries 3 s ([.ref (ad 21 0), .int a1, .int a2] : List Value).toArray wsX9_tries RX9 := ⟨hx, hb, hml, hown, hts⟩
  have hS : va_S A s.heap s.heap [] := va_S.rf
  have hl := lv_entry ([.ref (ad 21 0), .int a1, .int a2]) (n := 3) (Nat.le_of_ble_eq_true rfl)
  rw [lg_entry_eq]
  generalize (lg_sl ([.ref (ad 21 0), .int a1, .int a2]) ++ List.replicate (3 - (lg_sl ([.ref (ad 21 0), .int a1, .int a2])).length) Slot.unset).toArray = ls at hl ⊢
  have hl : lv_has ls 3 [(0, .ref (ad 21 0)), (1, .int a1), (2, .int a2)] := hl
  refine lv_aload_n hx hb dX9_tries_0 rfl (lv_at hl 0 rfl) ?_
  refine g_get (v := .ref (ad 22 0)) hx hb hts hown hK hP (hLm.h (f := 21) (by decide)) (gC21 _ _ _ _) gcl9 iX9_tries_X9 0 (by decide) mX9_tries_1 rfl rfl dX9_tries_1 ?_
  refine lv_bipush (v := (6 : Int32)) hx hb dX9_tries_4 (by decide) ?_
  refine lv_iload_n hx hb dX9_tries_6 rfl (lv_at hl 1 rfl) ?_
  refine lv_iadd hx hb dX9_tries_7 ?_
  refine lv_dup2_11 hx hb dX9_tries_8 rfl rfl ?_
  have hb1 := hw.1
  have hw := hw.2
  refine g_iald (n := 1730) hx hb hK hP (hLm.h (f := 22) (by decide)) rfl hb1 dX9_tries_9 ?_
  refine lv_aload_n hx hb dX9_tries_10 rfl (lv_at hl 0 rfl) ?_
  refine g_get (v := .ref (ad 22 0)) hx hb hts hown hK hP (hLm.h (f := 21) (by decide)) (gC21 _ _ _ _) gcl9 iX9_tries_X9 0 (by decide) mX9_tries_1 rfl rfl dX9_tries_11 ?_
  refine lv_bipush (v := (6 : Int32)) hx hb dX9_tries_14 (by decide) ?_
  refine lv_iload_n hx hb dX9_tries_16 rfl (lv_at hl 1 rfl) ?_
  refine lv_iadd hx hb dX9_tries_17 ?_
  have hb2 := hw.1
  have hw := hw.2
  refine g_iald (n := 1730) hx hb hK hP (hLm.h (f := 22) (by decide)) rfl hb2 dX9_tries_18 ?_
  refine lv_sipush (v := (9999 : Int32)) hx hb dX9_tries_19 (by decide) ?_
  refine lv_icmp_ge (tgt := 29) hx hb dX9_tries_22 (by decide) (fun c3 => ?_) (fun c3 => ?_)
  · have hw := hw.1 c3
    refine lv_iconst (v := (0 : Int32)) hx hb dX9_tries_29 (by decide) ?_
    refine lv_iadd hx hb dX9_tries_30 ?_
    have hb4 := hw.1
    have hw := hw.2
    refine g_iast (n := 1730) hx hb hF hK hP hS (hLm.h (f := 22) (by decide)) (fun _ => rfl) hb4 dX9_tries_31 (fun M5 e6 H locs hP hS => ?_)
    have hw := hw M5 e6
    refine lv_aload_n hx hb dX9_tries_32 rfl (lv_at hl 0 rfl) ?_
    refine g_get (v := .ref (ad 22 0)) hx hb hts hown hK hP (hLm.h (f := 21) (by decide)) (gC21 _ _ _ _) gcl9 iX9_tries_X9 0 (by decide) mX9_tries_1 rfl rfl dX9_tries_33 ?_
    refine lv_sipush (v := (708 : Int32)) hx hb dX9_tries_36 (by decide) ?_
    refine lv_iload_n hx hb dX9_tries_39 rfl (lv_at hl 1 rfl) ?_
    refine lv_iadd hx hb dX9_tries_40 ?_
    refine lv_dup2_11 hx hb dX9_tries_41 rfl rfl ?_
    have hb7 := hw.1
    have hw := hw.2
    refine g_iald (n := 1730) hx hb hK hP (hLm.h (f := 22) (by decide)) rfl hb7 dX9_tries_42 ?_
    refine lv_iload_n hx hb dX9_tries_43 rfl (lv_at hl 2 rfl) ?_
    refine lv_iconst (v := (1 : Int32)) hx hb dX9_tries_44 (by decide) ?_
    refine lv_icmp_ne (tgt := 68) hx hb dX9_tries_45 (by decide) (fun c8 => ?_) (fun c8 => ?_)
    · have hw := hw.2 c8
      refine lv_iconst (v := (0 : Int32)) hx hb dX9_tries_68 (by decide) ?_
      refine lv_iadd hx hb dX9_tries_69 ?_
      have hb9 := hw.1
      have hw := hw.2
      refine g_iast (n := 1730) hx hb hF hK hP hS (hLm.h (f := 22) (by decide)) (fun _ => rfl) hb9 dX9_tries_70 (fun M10 e11 H locs hP hS => ?_)
      have hw := hw M10 e11
      exact g_vret hx hb hr hlocks hw hP hS dX9_tries_71
    · have hw := hw.1 c8
      refine lv_aload_n hx hb dX9_tries_48 rfl (lv_at hl 0 rfl) ?_
      refine g_get (v := .ref (ad 22 0)) hx hb hts hown hK hP (hLm.h (f := 21) (by decide)) (gC21 _ _ _ _) gcl9 iX9_tries_X9 0 (by decide) mX9_tries_1 rfl rfl dX9_tries_49 ?_
      refine lv_sipush (v := (708 : Int32)) hx hb dX9_tries_52 (by decide) ?_
      refine lv_iload_n hx hb dX9_tries_55 rfl (lv_at hl 1 rfl) ?_
      refine lv_iadd hx hb dX9_tries_56 ?_
      have hb12 := hw.1
      have hw := hw.2
      refine g_iald (n := 1730) hx hb hK hP (hLm.h (f := 22) (by decide)) rfl hb12 dX9_tries_57 ?_
      refine lv_sipush (v := (9999 : Int32)) hx hb dX9_tries_58 (by decide) ?_
      refine lv_icmp_ge (tgt := 68) hx hb dX9_tries_61 (by decide) (fun c13 => ?_) (fun c13 => ?_)
      · have hw := hw.1 c13
        refine lv_iconst (v := (0 : Int32)) hx hb dX9_tries_68 (by decide) ?_
        refine lv_iadd hx hb dX9_tries_69 ?_
        have hb14 := hw.1
        have hw := hw.2
        refine g_iast (n := 1730) hx hb hF hK hP hS (hLm.h (f := 22) (by decide)) (fun _ => rfl) hb14 dX9_tries_70 (fun M15 e16 H locs hP hS => ?_)
        have hw := hw M15 e16
        exact g_vret hx hb hr hlocks hw hP hS dX9_tries_71
      · have hw := hw.2 c13
        refine lv_iconst (v := (1 : Int32)) hx hb dX9_tries_64 (by decide) ?_
        refine lv_goto (tgt := 69) hx hb dX9_tries_65 (by decide) ?_
        refine lv_iadd hx hb dX9_tries_69 ?_
        have hb17 := hw.1
        have hw := hw.2
        refine g_iast (n := 1730) hx hb hF hK hP hS (hLm.h (f := 22) (by decide)) (fun _ => rfl) hb17 dX9_tries_70 (fun M18 e19 H locs hP hS => ?_)
        have hw := hw M18 e19
        exact g_vret hx hb hr hlocks hw hP hS dX9_tries_71
  · have hw := hw.2 c3
    refine lv_iconst (v := (1 : Int32)) hx hb dX9_tries_25 (by decide) ?_
    refine lv_goto (tgt := 30) hx hb dX9_tries_26 (by decide) ?_
    refine lv_iadd hx hb dX9_tries_30 ?_
    have hb20 := hw.1
    have hw := hw.2
    refine g_iast (n := 1730) hx hb hF hK hP hS (hLm.h (f := 22) (by decide)) (fun _ => rfl) hb20 dX9_tries_31 (fun M21 e22 H locs hP hS => ?_)
    have hw := hw M21 e22
    refine lv_aload_n hx hb dX9_tries_32 rfl (lv_at hl 0 rfl) ?_
    refine g_get (v := .ref (ad 22 0)) hx hb hts hown hK hP (hLm.h (f := 21) (by decide)) (gC21 _ _ _ _) gcl9 iX9_tries_X9 0 (by decide) mX9_tries_1 rfl rfl dX9_tries_33 ?_
    refine lv_sipush (v := (708 : Int32)) hx hb dX9_tries_36 (by decide) ?_
    refine lv_iload_n hx hb dX9_tries_39 rfl (lv_at hl 1 rfl) ?_
    refine lv_iadd hx hb dX9_tries_40 ?_
    refine lv_dup2_11 hx hb dX9_tries_41 rfl rfl ?_
    have hb23 := hw.1
    have hw := hw.2
    refine g_iald (n := 1730) hx hb hK hP (hLm.h (f := 22) (by decide)) rfl hb23 dX9_tries_42 ?_
    refine lv_iload_n hx hb dX9_tries_43 rfl (lv_at hl 2 rfl) ?_
    refine lv_iconst (v := (1 : Int32)) hx hb dX9_tries_44 (by decide) ?_
    refine lv_icmp_ne (tgt := 68) hx hb dX9_tries_45 (by decide) (fun c24 => ?_) (fun c24 => ?_)
    · have hw := hw.2 c24
      refine lv_iconst (v := (0 : Int32)) hx hb dX9_tries_68 (by decide) ?_
      refine lv_iadd hx hb dX9_tries_69 ?_
      have hb25 := hw.1
      have hw := hw.2
      refine g_iast (n := 1730) hx hb hF hK hP hS (hLm.h (f := 22) (by decide)) (fun _ => rfl) hb25 dX9_tries_70 (fun M26 e27 H locs hP hS => ?_)
      have hw := hw M26 e27
      exact g_vret hx hb hr hlocks hw hP hS dX9_tries_71
    · have hw := hw.1 c24
      refine lv_aload_n hx hb dX9_tries_48 rfl (lv_at hl 0 rfl) ?_
      refine g_get (v := .ref (ad 22 0)) hx hb hts hown hK hP (hLm.h (f := 21) (by decide)) (gC21 _ _ _ _) gcl9 iX9_tries_X9 0 (by decide) mX9_tries_1 rfl rfl dX9_tries_49 ?_
      refine lv_sipush (v := (708 : Int32)) hx hb dX9_tries_52 (by decide) ?_
      refine lv_iload_n hx hb dX9_tries_55 rfl (lv_at hl 1 rfl) ?_
      refine lv_iadd hx hb dX9_tries_56 ?_
      have hb28 := hw.1
      have hw := hw.2
      refine g_iald (n := 1730) hx hb hK hP (hLm.h (f := 22) (by decide)) rfl hb28 dX9_tries_57 ?_
      refine lv_sipush (v := (9999 : Int32)) hx hb dX9_tries_58 (by decide) ?_
      refine lv_icmp_ge (tgt := 68) hx hb dX9_tries_61 (by decide) (fun c29 => ?_) (fun c29 => ?_)
      · have hw := hw.1 c29
        refine lv_iconst (v := (0 : Int32)) hx hb dX9_tries_68 (by decide) ?_
        refine lv_iadd hx hb dX9_tries_69 ?_
        have hb30 := hw.1
        have hw := hw.2
        refine g_iast (n := 1730) hx hb hF hK hP hS (hLm.h (f := 22) (by decide)) (fun _ => rfl) hb30 dX9_tries_70 (fun M31 e32 H locs hP hS => ?_)
        have hw := hw M31 e32
        exact g_vret hx hb hr hlocks hw hP hS dX9_tries_71
      · have hw := hw.2 c29
        refine lv_iconst (v := (1 : Int32)) hx hb dX9_tries_64 (by decide) ?_
        refine lv_goto (tgt := 69) hx hb dX9_tries_65 (by decide) ?_
        refine lv_iadd hx hb dX9_tries_69 ?_
        have hb33 := hw.1
        have hw := hw.2
        refine g_iast (n := 1730) hx hb hF hK hP hS (hLm.h (f := 22) (by decide)) (fun _ => rfl) hb33 dX9_tries_70 (fun M34 e35 H locs hP hS => ?_)
        have hw := hw M34 e35
        exact g_vret hx hb hr hlocks hw hP hS dX9_tries_71
abbrev rmX9_joinOf : Room := { frames := 0, cells := 0, slots := 0, locals := 0 }
theorem eX9_joinOf : yX9_joinOf.cls = RX9 ∧ yX9_joinOf.cls ≠ "java/lang/invoke/MethodHandle" ∧ yX9_joinOf.cls ≠ "java/lang/invoke/VarHandle" ∧ (parseMethodDescriptor yX9_joinOf.desc).map (fun d => d.parameters.length) = some 2 := by decide +kernel
set_option maxHeartbeats 4000000 in
set_option maxRecDepth 100000 in
theorem qX9_joinOf (l : Launch) (D : va_G) (E : Nat → ClassId) (ad : Nat → Nat → Nat) (L : List (Nat × Nat)) (A : Nat → Prop) (hF : gF E ad L A) (hLm : gLm L) (M0 : gW) (a0 : Int32) (a1 : Int32)  (K : Int32 → gW → Prop) (hw : wX9_joinOf M0 a0 a1 K) : Met l yX9_joinOf wsX9_joinOf rmX9_joinOf (va_Pc [.int a0, .int a1] (gPre D E ad L M0)) (gQi D E ad L A K) 0 0 A := by
  refine Met.ofW (cc := cX9_joinOf) (maxL := 2) (ret := (some .int)) (by decide) rfl ?_
  intro p e s m args below meth c s₁ B hml hv
  obtain ⟨rfl, hP, hK, hN⟩ := hv
  have hx := B.exec
  have hb := B.bytes
  have hr := B.returns
  have hts := atoms_spec (ws := wsX9_joinOf) B.pre
  have hown : s.vm.findClass RX9 = some m.cls := findClass_of_methodNamed B.named
  have hlocks := B.notSynchronized
  have S : CallFix p m c cX9_joinOf 2 s ([.int a0, .int a1] : List Value).toArray wsX9_joinOf RX9 := ⟨hx, hb, hml, hown, hts⟩
  have hS : va_S A s.heap s.heap [] := va_S.rf
  have hl := lv_entry ([.int a0, .int a1]) (n := 2) (Nat.le_of_ble_eq_true rfl)
  rw [lg_entry_eq]
  generalize (lg_sl ([.int a0, .int a1]) ++ List.replicate (2 - (lg_sl ([.int a0, .int a1])).length) Slot.unset).toArray = ls at hl ⊢
  have hl : lv_has ls 2 [(0, .int a0), (1, .int a1)] := hl
  refine lv_bipush (v := (26 : Int32)) hx hb dX9_joinOf_0 (by decide) ?_
  refine lv_bipush (v := (26 : Int32)) hx hb dX9_joinOf_2 (by decide) ?_
  refine lv_iload_n hx hb dX9_joinOf_4 rfl (lv_at hl 0 rfl) ?_
  refine lv_imul hx hb dX9_joinOf_5 ?_
  refine lv_iadd hx hb dX9_joinOf_6 ?_
  refine lv_iload_n hx hb dX9_joinOf_7 rfl (lv_at hl 1 rfl) ?_
  refine lv_iadd hx hb dX9_joinOf_8 ?_
  exact g_iret hx hb hr hlocks hw hP hS dX9_joinOf_9
abbrev rmX9_isWord : Room := { frames := 1, cells := 0, slots := 0, locals := 25 }
theorem eX9_isWord : yX9_isWord.cls = RX9 ∧ yX9_isWord.cls ≠ "java/lang/invoke/MethodHandle" ∧ yX9_isWord.cls ≠ "java/lang/invoke/VarHandle" ∧ (parseMethodDescriptor yX9_isWord.desc).map (fun d => d.parameters.length) = some 1 := by decide +kernel
theorem iX9_isWord_X9 : ∀ w ∈ wsX90, w ∈ wsX9_isWord := fun _ h => List.mem_cons_of_mem _ (List.mem_append_right _ (h))
theorem mX9_isWord_1 : Cond.fieldLink RX9 7 "PracticeSheetsModel" "all" "[I" ∈ wsX9_isWord := List.mem_of_getElem? (i := 1) rfl
set_option maxHeartbeats 4000000 in
set_option maxRecDepth 100000 in
theorem qX9_isWord (l : Launch) (D : va_G) (E : Nat → ClassId) (ad : Nat → Nat → Nat) (L : List (Nat × Nat)) (A : Nat → Prop) (hF : gF E ad L A) (hLm : gLm L) (M0 : gW) (a1 : Int32)  (K : Int32 → gW → Prop) (hw : wX9_isWord M0 a1 K) : Met l yX9_isWord wsX9_isWord rmX9_isWord (va_Pc [.ref (ad 21 0), .int a1] (gPre D E ad L M0)) (gQi D E ad L A K) 0 0 A := by
  refine Met.ofW (cc := cX9_isWord) (maxL := 2) (ret := (some .boolean)) (by decide) rfl ?_
  intro p e s m args below meth c s₁ B hml hv
  obtain ⟨rfl, hP, hK, hN⟩ := hv
  have hx := B.exec
  have hb := B.bytes
  have hr := B.returns
  have hts := atoms_spec (ws := wsX9_isWord) B.pre
  have hown : s.vm.findClass RX9 = some m.cls := findClass_of_methodNamed B.named
  have hlocks := B.notSynchronized
  have S : CallFix p m c cX9_isWord 2 s ([.ref (ad 21 0), .int a1] : List Value).toArray wsX9_isWord RX9 := ⟨hx, hb, hml, hown, hts⟩
  have hS : va_S A s.heap s.heap [] := va_S.rf
  have hl := lv_entry ([.ref (ad 21 0), .int a1]) (n := 2) (Nat.le_of_ble_eq_true rfl)
  rw [lg_entry_eq]
  generalize (lg_sl ([.ref (ad 21 0), .int a1]) ++ List.replicate (2 - (lg_sl ([.ref (ad 21 0), .int a1])).length) Slot.unset).toArray = ls at hl ⊢
  have hl : lv_has ls 2 [(0, .ref (ad 21 0)), (1, .int a1)] := hl
  refine lv_iload_n hx hb dX9_isWord_0 rfl (lv_at hl 1 rfl) ?_
  refine lv_i2l (v := a1.toInt64) hx hb dX9_isWord_1 rfl ?_
  refine lv_lconst (v := (0 : Int64)) hx hb dX9_isWord_2 (by decide) ?_
  refine lv_aload_n hx hb dX9_isWord_3 rfl (lv_at hl 0 rfl) ?_
  refine g_get (v := .ref (ad 22 0)) hx hb hts hown hK hP (hLm.h (f := 21) (by decide)) (gC21 _ _ _ _) gcl9 iX9_isWord_X9 0 (by decide) mX9_isWord_1 rfl rfl dX9_isWord_4 ?_
  refine lv_iconst (v := (5 : Int32)) hx hb dX9_isWord_7 (by decide) ?_
  have hb1 := hw.1
  have hw := hw.2
  refine g_iald (n := 1730) hx hb hK hP (hLm.h (f := 22) (by decide)) rfl hb1 dX9_isWord_8 ?_
  refine lv_i2l (v := (M0 22 0 (5 : Int32).toNatClampNeg).toInt64) hx hb dX9_isWord_9 rfl ?_
  refine lv_lconst (v := (1 : Int64)) hx hb dX9_isWord_10 (by decide) ?_
  refine lv_lsub hx hb dX9_isWord_11 ?_
  refine g_Si (As := [.long (a1.toInt64), .long (0 : Int64), .long ((M0 22 0 (5 : Int32).toNatClampNeg).toInt64 - (1 : Int64))]) (rest := []) S hK hN hP hS (qX9_in l D E ad L A hF hLm M0 (a1.toInt64) (0 : Int64) ((M0 22 0 (5 : Int32).toNatClampNeg).toInt64 - (1 : Int64))  _ hw) (va_cwS 3 hts gX9_isWord_X9_in rfl rfl rfl eX9_in.2 ⟨Nat.le_of_ble_eq_true rfl, Nat.le_of_ble_eq_true rfl⟩) rfl rfl hl.1 (Nat.le_of_ble_eq_true rfl) ⟨Nat.zero_le _, Nat.zero_le _⟩ dX9_isWord_12 (fun r3 M2 H locs hw hP hS => ?_)
  have hb4 := hw.1
  have hw := hw.2
  exact g_zret hx hb hr hlocks hb4 hw hP hS dX9_isWord_15
abbrev rmX9_sizeOf : Room := { frames := 0, cells := 0, slots := 0, locals := 0 }
theorem eX9_sizeOf : yX9_sizeOf.cls = RX9 ∧ yX9_sizeOf.cls ≠ "java/lang/invoke/MethodHandle" ∧ yX9_sizeOf.cls ≠ "java/lang/invoke/VarHandle" ∧ (parseMethodDescriptor yX9_sizeOf.desc).map (fun d => d.parameters.length) = some 1 := by decide +kernel
theorem iX9_sizeOf_X9 : ∀ w ∈ wsX90, w ∈ wsX9_sizeOf := fun _ h => List.mem_cons_of_mem _ (List.mem_append_right _ (h))
theorem mX9_sizeOf_1 : Cond.fieldLink RX9 7 "PracticeSheetsModel" "all" "[I" ∈ wsX9_sizeOf := List.mem_of_getElem? (i := 1) rfl
set_option maxHeartbeats 4000000 in
set_option maxRecDepth 100000 in
theorem qX9_sizeOf (l : Launch) (D : va_G) (E : Nat → ClassId) (ad : Nat → Nat → Nat) (L : List (Nat × Nat)) (A : Nat → Prop) (hF : gF E ad L A) (hLm : gLm L) (M0 : gW) (a1 : Int32)  (K : Int32 → gW → Prop) (hw : wX9_sizeOf M0 a1 K) : Met l yX9_sizeOf wsX9_sizeOf rmX9_sizeOf (va_Pc [.ref (ad 21 0), .int a1] (gPre D E ad L M0)) (gQi D E ad L A K) 0 0 A := by
  refine Met.ofW (cc := cX9_sizeOf) (maxL := 2) (ret := (some .int)) (by decide) rfl ?_
  intro p e s m args below meth c s₁ B hml hv
  obtain ⟨rfl, hP, hK, hN⟩ := hv
  have hx := B.exec
  have hb := B.bytes
  have hr := B.returns
  have hts := atoms_spec (ws := wsX9_sizeOf) B.pre
  have hown : s.vm.findClass RX9 = some m.cls := findClass_of_methodNamed B.named
  have hlocks := B.notSynchronized
  have S : CallFix p m c cX9_sizeOf 2 s ([.ref (ad 21 0), .int a1] : List Value).toArray wsX9_sizeOf RX9 := ⟨hx, hb, hml, hown, hts⟩
  have hS : va_S A s.heap s.heap [] := va_S.rf
  have hl := lv_entry ([.ref (ad 21 0), .int a1]) (n := 2) (Nat.le_of_ble_eq_true rfl)
  rw [lg_entry_eq]
  generalize (lg_sl ([.ref (ad 21 0), .int a1]) ++ List.replicate (2 - (lg_sl ([.ref (ad 21 0), .int a1])).length) Slot.unset).toArray = ls at hl ⊢
  have hl : lv_has ls 2 [(0, .ref (ad 21 0)), (1, .int a1)] := hl
  refine lv_aload_n hx hb dX9_sizeOf_0 rfl (lv_at hl 0 rfl) ?_
  refine g_get (v := .ref (ad 22 0)) hx hb hts hown hK hP (hLm.h (f := 21) (by decide)) (gC21 _ _ _ _) gcl9 iX9_sizeOf_X9 0 (by decide) mX9_sizeOf_1 rfl rfl dX9_sizeOf_1 ?_
  refine lv_sipush (v := (1410 : Int32)) hx hb dX9_sizeOf_4 (by decide) ?_
  refine lv_bipush (v := (16 : Int32)) hx hb dX9_sizeOf_7 (by decide) ?_
  refine lv_iload_n hx hb dX9_sizeOf_9 rfl (lv_at hl 1 rfl) ?_
  refine lv_imul hx hb dX9_sizeOf_10 ?_
  refine lv_iadd hx hb dX9_sizeOf_11 ?_
  have hb1 := hw.1
  have hw := hw.2
  refine g_iald (n := 1730) hx hb hK hP (hLm.h (f := 22) (by decide)) rfl hb1 dX9_sizeOf_12 ?_
  exact g_iret hx hb hr hlocks hw hP hS dX9_sizeOf_13
abbrev rmX9_letterAt : Room := { frames := 0, cells := 0, slots := 0, locals := 0 }
theorem eX9_letterAt : yX9_letterAt.cls = RX9 ∧ yX9_letterAt.cls ≠ "java/lang/invoke/MethodHandle" ∧ yX9_letterAt.cls ≠ "java/lang/invoke/VarHandle" ∧ (parseMethodDescriptor yX9_letterAt.desc).map (fun d => d.parameters.length) = some 2 := by decide +kernel
theorem iX9_letterAt_X9 : ∀ w ∈ wsX90, w ∈ wsX9_letterAt := fun _ h => List.mem_cons_of_mem _ (List.mem_append_right _ (h))
theorem mX9_letterAt_1 : Cond.fieldLink RX9 7 "PracticeSheetsModel" "all" "[I" ∈ wsX9_letterAt := List.mem_of_getElem? (i := 1) rfl
set_option maxHeartbeats 4000000 in
set_option maxRecDepth 100000 in
theorem qX9_letterAt (l : Launch) (D : va_G) (E : Nat → ClassId) (ad : Nat → Nat → Nat) (L : List (Nat × Nat)) (A : Nat → Prop) (hF : gF E ad L A) (hLm : gLm L) (M0 : gW) (a1 : Int32) (a2 : Int32)  (K : Int32 → gW → Prop) (hw : wX9_letterAt M0 a1 a2 K) : Met l yX9_letterAt wsX9_letterAt rmX9_letterAt (va_Pc [.ref (ad 21 0), .int a1, .int a2] (gPre D E ad L M0)) (gQi D E ad L A K) 0 0 A := by
  refine Met.ofW (cc := cX9_letterAt) (maxL := 3) (ret := (some .int)) (by decide) rfl ?_
  intro p e s m args below meth c s₁ B hml hv
  obtain ⟨rfl, hP, hK, hN⟩ := hv
  have hx := B.exec
  have hb := B.bytes
  have hr := B.returns
  have hts := atoms_spec (ws := wsX9_letterAt) B.pre
  have hown : s.vm.findClass RX9 = some m.cls := findClass_of_methodNamed B.named
  have hlocks := B.notSynchronized
  have S : CallFix p m c cX9_letterAt 3 s ([.ref (ad 21 0), .int a1, .int a2] : List Value).toArray wsX9_letterAt RX9 := ⟨hx, hb, hml, hown, hts⟩
  have hS : va_S A s.heap s.heap [] := va_S.rf
  have hl := lv_entry ([.ref (ad 21 0), .int a1, .int a2]) (n := 3) (Nat.le_of_ble_eq_true rfl)
  rw [lg_entry_eq]
  generalize (lg_sl ([.ref (ad 21 0), .int a1, .int a2]) ++ List.replicate (3 - (lg_sl ([.ref (ad 21 0), .int a1, .int a2])).length) Slot.unset).toArray = ls at hl ⊢
  have hl : lv_has ls 3 [(0, .ref (ad 21 0)), (1, .int a1), (2, .int a2)] := hl
  refine lv_aload_n hx hb dX9_letterAt_0 rfl (lv_at hl 0 rfl) ?_
  refine g_get (v := .ref (ad 22 0)) hx hb hts hown hK hP (hLm.h (f := 21) (by decide)) (gC21 _ _ _ _) gcl9 iX9_letterAt_X9 0 (by decide) mX9_letterAt_1 rfl rfl dX9_letterAt_1 ?_
  refine lv_sipush (v := (1410 : Int32)) hx hb dX9_letterAt_4 (by decide) ?_
  refine lv_bipush (v := (16 : Int32)) hx hb dX9_letterAt_7 (by decide) ?_
  refine lv_iload_n hx hb dX9_letterAt_9 rfl (lv_at hl 1 rfl) ?_
  refine lv_imul hx hb dX9_letterAt_10 ?_
  refine lv_iadd hx hb dX9_letterAt_11 ?_
  refine lv_iconst (v := (1 : Int32)) hx hb dX9_letterAt_12 (by decide) ?_
  refine lv_iadd hx hb dX9_letterAt_13 ?_
  refine lv_iload_n hx hb dX9_letterAt_14 rfl (lv_at hl 2 rfl) ?_
  refine lv_iadd hx hb dX9_letterAt_15 ?_
  have hb1 := hw.1
  have hw := hw.2
  refine g_iald (n := 1730) hx hb hK hP (hLm.h (f := 22) (by decide)) rfl hb1 dX9_letterAt_16 ?_
  exact g_iret hx hb hr hlocks hw hP hS dX9_letterAt_17
abbrev rmX9_addsPart : Room := { frames := 0, cells := 0, slots := 0, locals := 0 }
theorem eX9_addsPart : yX9_addsPart.cls = RX9 ∧ yX9_addsPart.cls ≠ "java/lang/invoke/MethodHandle" ∧ yX9_addsPart.cls ≠ "java/lang/invoke/VarHandle" ∧ (parseMethodDescriptor yX9_addsPart.desc).map (fun d => d.parameters.length) = some 1 := by decide +kernel
theorem iX9_addsPart_X9 : ∀ w ∈ wsX90, w ∈ wsX9_addsPart := fun _ h => List.mem_cons_of_mem _ (List.mem_append_right _ (h))
theorem mX9_addsPart_1 : Cond.fieldLink RX9 61 "PracticeSheetsModel" "parts" "I" ∈ wsX9_addsPart := List.mem_of_getElem? (i := 1) rfl
theorem mX9_addsPart_2 : Cond.fieldLink RX9 25 "PracticeSheetsModel" "part" "[I" ∈ wsX9_addsPart := List.mem_of_getElem? (i := 2) rfl
set_option maxHeartbeats 4000000 in
set_option maxRecDepth 100000 in
theorem qX9_addsPart (l : Launch) (D : va_G) (E : Nat → ClassId) (ad : Nat → Nat → Nat) (L : List (Nat × Nat)) (A : Nat → Prop) (hF : gF E ad L A) (hLm : gLm L) (M0 : gW) (a1 : Int32)  (K : gW → Prop) (hw : wX9_addsPart M0 a1 K) : Met l yX9_addsPart wsX9_addsPart rmX9_addsPart (va_Pc [.ref (ad 21 0), .int a1] (gPre D E ad L M0)) (gQv D E ad L A K) 0 0 A := by
  refine Met.ofW (cc := cX9_addsPart) (maxL := 4) (ret := none) (by decide) rfl ?_
  intro p e s m args below meth c s₁ B hml hv
  obtain ⟨rfl, hP, hK, hN⟩ := hv
  have hx := B.exec
  have hb := B.bytes
  have hr := B.returns
  have hts := atoms_spec (ws := wsX9_addsPart) B.pre
  have hown : s.vm.findClass RX9 = some m.cls := findClass_of_methodNamed B.named
  have hlocks := B.notSynchronized
  have S : CallFix p m c cX9_addsPart 4 s ([.ref (ad 21 0), .int a1] : List Value).toArray wsX9_addsPart RX9 := ⟨hx, hb, hml, hown, hts⟩
  have hS : va_S A s.heap s.heap [] := va_S.rf
  have hl := lv_entry ([.ref (ad 21 0), .int a1]) (n := 4) (Nat.le_of_ble_eq_true rfl)
  rw [lg_entry_eq]
  generalize (lg_sl ([.ref (ad 21 0), .int a1]) ++ List.replicate (4 - (lg_sl ([.ref (ad 21 0), .int a1])).length) Slot.unset).toArray = ls at hl ⊢
  have hl : lv_has ls 4 [(0, .ref (ad 21 0)), (1, .int a1)] := hl
  refine lv_iconst (v := (0 : Int32)) hx hb dX9_addsPart_0 (by decide) ?_
  refine lv_istore_n (lv' := [(2, .int (0 : Int32)), (0, .ref (ad 21 0)), (1, .int a1)]) hx hb dX9_addsPart_1 rfl hl (by decide) rfl (fun ls hl => ?_)
  refine lv_iconst (v := (0 : Int32)) hx hb dX9_addsPart_2 (by decide) ?_
  refine lv_istore_n (lv' := [(3, .int (0 : Int32)), (2, .int (0 : Int32)), (0, .ref (ad 21 0)), (1, .int a1)]) hx hb dX9_addsPart_3 rfl hl (by decide) rfl (fun ls hl => ?_)
  obtain ⟨n18, hw⟩ := hw
  have hxX9_addsPart_L4_0 : ∀ (M9 : gW) (x2_10 : Int32) (x3_11 : Int32) (H : Heap) (locs : List Loc) (ls : Array Slot), ((x2_10 = 0 → ((vp_in (M9 21 0 8) 29) ∧ (∀ M14 : gW, M14 = gU M9 22 5 (upd (M9 22 5) (M9 21 0 8).toNatClampNeg a1) → (∀ M16 : gW, M16 = gU M14 21 0 (upd (M14 21 0) 8 ((M14 21 0 8) + (1 : Int32))) → (K M16))))) ∧ (¬ (x2_10 = 0) → (K M9))) → va_P D vwCl (gL E ad L M9) H → va_S A s.heap H locs → lv_has ls 4 [(0, .ref (ad 21 0)), (1, .int a1), (2, .int x2_10), (3, .int x3_11)] → W p l e (headSpec wsX9_addsPart rmX9_addsPart).room s m (([.ref (ad 21 0), .int a1] : List Value).toArray) below meth c H locs 0 0 (MQ below (gQv D E ad L A K) ([.ref (ad 21 0), .int a1] : List Value).toArray s 0 0 A) (F0 m 38 ls []) := by
    intro M9 x2_10 x3_11 H locs ls hw hP hS hl
    refine lv_iload_n hx hb dX9_addsPart_38 rfl (lv_at hl 2 rfl) ?_
    refine lv_if_ne (tgt := 62) hx hb dX9_addsPart_39 (by decide) (fun c12 => ?_) (fun c12 => ?_)
    · have hw := hw.2 c12
      exact g_vret hx hb hr hlocks hw hP hS dX9_addsPart_62
    · have hw := hw.1 c12
      refine lv_aload_n hx hb dX9_addsPart_42 rfl (lv_at hl 0 rfl) ?_
      refine g_get (v := .ref (ad 22 5)) hx hb hts hown hK hP (hLm.h (f := 21) (by decide)) (gC21 _ _ _ _) gcl9 iX9_addsPart_X9 7 (by decide) mX9_addsPart_2 rfl rfl dX9_addsPart_43 ?_
      refine lv_aload_n hx hb dX9_addsPart_46 rfl (lv_at hl 0 rfl) ?_
      refine g_get (v := .int (M9 21 0 8)) hx hb hts hown hK hP (hLm.h (f := 21) (by decide)) (gC21 _ _ _ _) gcl9 iX9_addsPart_X9 8 (by decide) mX9_addsPart_1 rfl rfl dX9_addsPart_47 ?_
      refine lv_iload_n hx hb dX9_addsPart_50 rfl (lv_at hl 1 rfl) ?_
      have hb13 := hw.1
      have hw := hw.2
      refine g_iast (n := 29) hx hb hF hK hP hS (hLm.h (f := 22) (by decide)) (fun _ => rfl) hb13 dX9_addsPart_51 (fun M14 e15 H locs hP hS => ?_)
      have hw := hw M14 e15
      refine lv_aload_n hx hb dX9_addsPart_52 rfl (lv_at hl 0 rfl) ?_
      refine lv_dup hx hb dX9_addsPart_53 rfl ?_
      refine g_get (v := .int (M14 21 0 8)) hx hb hts hown hK hP (hLm.h (f := 21) (by decide)) (gC21 _ _ _ _) gcl9 iX9_addsPart_X9 8 (by decide) mX9_addsPart_1 rfl rfl dX9_addsPart_54 ?_
      refine lv_iconst (v := (1 : Int32)) hx hb dX9_addsPart_57 (by decide) ?_
      refine lv_iadd hx hb dX9_addsPart_58 ?_
      refine g_put hx hb hF hts hown hK hP hS (hLm.h (f := 21) (by decide)) (gC21 _ _ _ _) gcl9 iX9_addsPart_X9 tyX9 tyX9_ok nmX9 8 (by decide) mX9_addsPart_1 rfl rfl rfl rfl (Nat.lt_of_lt_of_eq (by decide : 8 < 19) rfl) rfl dX9_addsPart_59 (fun M16 e17 H locs hP hS => ?_)
      have hw := hw M16 e17
      exact g_vret hx hb hr hlocks hw hP hS dX9_addsPart_62
  have hlX9_addsPart_L4 : ∀ (n1 : Nat) (M2 : gW) (x2_3 : Int32) (x3_4 : Int32) (H : Heap) (locs : List Loc) (ls : Array Slot), wX9_addsPart_L4 a1 (fun M9 x2_10 x3_11 => ((x2_10 = 0 → ((vp_in (M9 21 0 8) 29) ∧ (∀ M14 : gW, M14 = gU M9 22 5 (upd (M9 22 5) (M9 21 0 8).toNatClampNeg a1) → (∀ M16 : gW, M16 = gU M14 21 0 (upd (M14 21 0) 8 ((M14 21 0 8) + (1 : Int32))) → (K M16))))) ∧ (¬ (x2_10 = 0) → (K M9)))) n1 M2 x2_3 x3_4 → va_P D vwCl (gL E ad L M2) H → va_S A s.heap H locs → lv_has ls 4 [(0, .ref (ad 21 0)), (1, .int a1), (2, .int x2_3), (3, .int x3_4)] → W p l e (headSpec wsX9_addsPart rmX9_addsPart).room s m (([.ref (ad 21 0), .int a1] : List Value).toArray) below meth c H locs 0 0 (MQ below (gQv D E ad L A K) ([.ref (ad 21 0), .int a1] : List Value).toArray s 0 0 A) (F0 m 4 ls []) := by
    intro n1
    induction n1 with
    | zero => intro M2 x2_3 x3_4 H locs ls hw; exact False.elim hw
    | succ n1 ihn1 =>
      intro M2 x2_3 x3_4 H locs ls hw hP hS hl
      refine lv_iload_n hx hb dX9_addsPart_4 rfl (lv_at hl 3 rfl) ?_
      refine lv_aload_n hx hb dX9_addsPart_5 rfl (lv_at hl 0 rfl) ?_
      refine g_get (v := .int (M2 21 0 8)) hx hb hts hown hK hP (hLm.h (f := 21) (by decide)) (gC21 _ _ _ _) gcl9 iX9_addsPart_X9 8 (by decide) mX9_addsPart_1 rfl rfl dX9_addsPart_6 ?_
      refine lv_icmp_ge (tgt := 38) hx hb dX9_addsPart_9 (by decide) (fun c5 => ?_) (fun c5 => ?_)
      · have hw := hw.1 c5
        exact hxX9_addsPart_L4_0 _ _ _ _ _ _ hw hP hS (lv_sub hl [0, 1, 2, 3] rfl)
      · have hw := hw.2 c5
        refine lv_iload_n hx hb dX9_addsPart_12 rfl (lv_at hl 2 rfl) ?_
        refine lv_if_ne (tgt := 26) hx hb dX9_addsPart_13 (by decide) (fun c6 => ?_) (fun c6 => ?_)
        · have hw := hw.2 c6
          refine lv_iconst (v := (1 : Int32)) hx hb dX9_addsPart_26 (by decide) ?_
          refine lv_goto (tgt := 31) hx hb dX9_addsPart_27 (by decide) ?_
          refine lv_istore_n (lv' := [(2, .int (1 : Int32)), (0, .ref (ad 21 0)), (1, .int a1), (3, .int x3_4)]) hx hb dX9_addsPart_31 rfl hl (by decide) rfl (fun ls hl => ?_)
          refine lv_iinc (v := (x3_4 + (1 : Int32))) (lv' := [(3, .int (x3_4 + (1 : Int32))), (2, .int (1 : Int32)), (0, .ref (ad 21 0)), (1, .int a1)]) hx hb dX9_addsPart_32 hl (k := 3) rfl rfl (by decide) rfl (fun ls hl => ?_)
          refine lv_goto (tgt := 4) hx hb dX9_addsPart_35 (by decide) ?_
          exact ihn1 _ _ _ _ _ _ hw hP hS (lv_sub hl [2, 3, 1, 0] rfl)
        · have hw := hw.1 c6
          refine lv_aload_n hx hb dX9_addsPart_16 rfl (lv_at hl 0 rfl) ?_
          refine g_get (v := .ref (ad 22 5)) hx hb hts hown hK hP (hLm.h (f := 21) (by decide)) (gC21 _ _ _ _) gcl9 iX9_addsPart_X9 7 (by decide) mX9_addsPart_2 rfl rfl dX9_addsPart_17 ?_
          refine lv_iload_n hx hb dX9_addsPart_20 rfl (lv_at hl 3 rfl) ?_
          have hb7 := hw.1
          have hw := hw.2
          refine g_iald (n := 29) hx hb hK hP (hLm.h (f := 22) (by decide)) rfl hb7 dX9_addsPart_21 ?_
          refine lv_iload_n hx hb dX9_addsPart_22 rfl (lv_at hl 1 rfl) ?_
          refine lv_icmp_ne (tgt := 30) hx hb dX9_addsPart_23 (by decide) (fun c8 => ?_) (fun c8 => ?_)
          · have hw := hw.2 c8
            refine lv_iconst (v := (0 : Int32)) hx hb dX9_addsPart_30 (by decide) ?_
            refine lv_istore_n (lv' := [(2, .int (0 : Int32)), (0, .ref (ad 21 0)), (1, .int a1), (3, .int x3_4)]) hx hb dX9_addsPart_31 rfl hl (by decide) rfl (fun ls hl => ?_)
            refine lv_iinc (v := (x3_4 + (1 : Int32))) (lv' := [(3, .int (x3_4 + (1 : Int32))), (2, .int (0 : Int32)), (0, .ref (ad 21 0)), (1, .int a1)]) hx hb dX9_addsPart_32 hl (k := 3) rfl rfl (by decide) rfl (fun ls hl => ?_)
            refine lv_goto (tgt := 4) hx hb dX9_addsPart_35 (by decide) ?_
            exact ihn1 _ _ _ _ _ _ hw hP hS (lv_sub hl [2, 3, 1, 0] rfl)
          · have hw := hw.1 c8
            refine lv_iconst (v := (1 : Int32)) hx hb dX9_addsPart_26 (by decide) ?_
            refine lv_goto (tgt := 31) hx hb dX9_addsPart_27 (by decide) ?_
            refine lv_istore_n (lv' := [(2, .int (1 : Int32)), (0, .ref (ad 21 0)), (1, .int a1), (3, .int x3_4)]) hx hb dX9_addsPart_31 rfl hl (by decide) rfl (fun ls hl => ?_)
            refine lv_iinc (v := (x3_4 + (1 : Int32))) (lv' := [(3, .int (x3_4 + (1 : Int32))), (2, .int (1 : Int32)), (0, .ref (ad 21 0)), (1, .int a1)]) hx hb dX9_addsPart_32 hl (k := 3) rfl rfl (by decide) rfl (fun ls hl => ?_)
            refine lv_goto (tgt := 4) hx hb dX9_addsPart_35 (by decide) ?_
            exact ihn1 _ _ _ _ _ _ hw hP hS (lv_sub hl [2, 3, 1, 0] rfl)
  exact hlX9_addsPart_L4 n18 _ _ _ _ _ _ hw hP hS (lv_sub hl [2, 3, 1, 0] rfl)
abbrev rmX9_findsParts : Room := { frames := 1, cells := 0, slots := 0, locals := 23 }
theorem eX9_findsParts : yX9_findsParts.cls = RX9 ∧ yX9_findsParts.cls ≠ "java/lang/invoke/MethodHandle" ∧ yX9_findsParts.cls ≠ "java/lang/invoke/VarHandle" ∧ (parseMethodDescriptor yX9_findsParts.desc).map (fun d => d.parameters.length) = some 1 := by decide +kernel
theorem iX9_findsParts_X9 : ∀ w ∈ wsX90, w ∈ wsX9_findsParts := fun _ h => List.mem_cons_of_mem _ (List.mem_append_right _ (h))
theorem mX9_findsParts_1 : Cond.fieldLink RX9 61 "PracticeSheetsModel" "parts" "I" ∈ wsX9_findsParts := List.mem_of_getElem? (i := 1) rfl
set_option maxHeartbeats 4000000 in
set_option maxRecDepth 100000 in
theorem qX9_findsParts (l : Launch) (D : va_G) (E : Nat → ClassId) (ad : Nat → Nat → Nat) (L : List (Nat × Nat)) (A : Nat → Prop) (hF : gF E ad L A) (hLm : gLm L) (M0 : gW) (a1 : Int32)  (K : gW → Prop) (hw : wX9_findsParts M0 a1 K) : Met l yX9_findsParts wsX9_findsParts rmX9_findsParts (va_Pc [.ref (ad 21 0), .int a1] (gPre D E ad L M0)) (gQv D E ad L A K) 0 0 A := by
  refine Met.ofW (cc := cX9_findsParts) (maxL := 3) (ret := none) (by decide) rfl ?_
  intro p e s m args below meth c s₁ B hml hv
  obtain ⟨rfl, hP, hK, hN⟩ := hv
  have hx := B.exec
  have hb := B.bytes
  have hr := B.returns
  have hts := atoms_spec (ws := wsX9_findsParts) B.pre
  have hown : s.vm.findClass RX9 = some m.cls := findClass_of_methodNamed B.named
  have hlocks := B.notSynchronized
  have S : CallFix p m c cX9_findsParts 3 s ([.ref (ad 21 0), .int a1] : List Value).toArray wsX9_findsParts RX9 := ⟨hx, hb, hml, hown, hts⟩
  have hS : va_S A s.heap s.heap [] := va_S.rf
  have hl := lv_entry ([.ref (ad 21 0), .int a1]) (n := 3) (Nat.le_of_ble_eq_true rfl)
  rw [lg_entry_eq]
  generalize (lg_sl ([.ref (ad 21 0), .int a1]) ++ List.replicate (3 - (lg_sl ([.ref (ad 21 0), .int a1])).length) Slot.unset).toArray = ls at hl ⊢
  have hl : lv_has ls 3 [(0, .ref (ad 21 0)), (1, .int a1)] := hl
  refine lv_aload_n hx hb dX9_findsParts_0 rfl (lv_at hl 0 rfl) ?_
  refine lv_iconst (v := (0 : Int32)) hx hb dX9_findsParts_1 (by decide) ?_
  refine g_put hx hb hF hts hown hK hP hS (hLm.h (f := 21) (by decide)) (gC21 _ _ _ _) gcl9 iX9_findsParts_X9 tyX9 tyX9_ok nmX9 8 (by decide) mX9_findsParts_1 rfl rfl rfl rfl (Nat.lt_of_lt_of_eq (by decide : 8 < 19) rfl) rfl dX9_findsParts_2 (fun M1 e2 H locs hP hS => ?_)
  have hw := hw M1 e2
  refine lv_iconst (v := (0 : Int32)) hx hb dX9_findsParts_5 (by decide) ?_
  refine lv_istore_n (lv' := [(2, .int (0 : Int32)), (0, .ref (ad 21 0)), (1, .int a1)]) hx hb dX9_findsParts_6 rfl hl (by decide) rfl (fun ls hl => ?_)
  obtain ⟨n22, hw⟩ := hw
  have hxX9_findsParts_L7_0 : ∀ (M20 : gW) (x2_21 : Int32) (H : Heap) (locs : List Loc) (ls : Array Slot), (K M20) → va_P D vwCl (gL E ad L M20) H → va_S A s.heap H locs → lv_has ls 3 [(0, .ref (ad 21 0)), (1, .int a1), (2, .int x2_21)] → W p l e (headSpec wsX9_findsParts rmX9_findsParts).room s m (([.ref (ad 21 0), .int a1] : List Value).toArray) below meth c H locs 0 0 (MQ below (gQv D E ad L A K) ([.ref (ad 21 0), .int a1] : List Value).toArray s 0 0 A) (F0 m 57 ls []) := by
    intro M20 x2_21 H locs ls hw hP hS hl
    exact g_vret hx hb hr hlocks hw hP hS dX9_findsParts_57
  have hlX9_findsParts_L7 : ∀ (n3 : Nat) (M4 : gW) (x2_5 : Int32) (H : Heap) (locs : List Loc) (ls : Array Slot), wX9_findsParts_L7 a1 (fun M20 x2_21 => (K M20)) n3 M4 x2_5 → va_P D vwCl (gL E ad L M4) H → va_S A s.heap H locs → lv_has ls 3 [(0, .ref (ad 21 0)), (1, .int a1), (2, .int x2_5)] → W p l e (headSpec wsX9_findsParts rmX9_findsParts).room s m (([.ref (ad 21 0), .int a1] : List Value).toArray) below meth c H locs 0 0 (MQ below (gQv D E ad L A K) ([.ref (ad 21 0), .int a1] : List Value).toArray s 0 0 A) (F0 m 7 ls []) := by
    intro n3
    induction n3 with
    | zero => intro M4 x2_5 H locs ls hw; exact False.elim hw
    | succ n3 ihn3 =>
      intro M4 x2_5 H locs ls hw hP hS hl
      refine lv_iload_n hx hb dX9_findsParts_7 rfl (lv_at hl 2 rfl) ?_
      refine lv_aload_n hx hb dX9_findsParts_8 rfl (lv_at hl 0 rfl) ?_
      refine lv_iload_n hx hb dX9_findsParts_9 rfl (lv_at hl 1 rfl) ?_
      refine g_Vi (As := [.int a1]) (rest := [.int x2_5]) S hK hN hP hS (qX9_sizeOf l D E ad L A hF hLm M4 a1  _ hw) (cwV 1 hts gX9_findsParts_X9_sizeOf rfl rfl rfl eX9_sizeOf ⟨Nat.le_of_ble_eq_true rfl, Nat.le_of_ble_eq_true rfl⟩) (hLm.h (f := 21) (by decide)) (gC21 _ _ _ _) gcl9 rfl rfl rfl hl.1 (Nat.le_of_ble_eq_true rfl) ⟨Nat.zero_le _, Nat.zero_le _⟩ dX9_findsParts_10 (fun r7 M6 H locs hw hP hS => ?_)
      refine lv_icmp_ge (tgt := 57) hx hb dX9_findsParts_13 (by decide) (fun c8 => ?_) (fun c8 => ?_)
      · have hw := hw.1 c8
        exact hxX9_findsParts_L7_0 _ _ _ _ _ hw hP hS (lv_sub hl [0, 1, 2] rfl)
      · have hw := hw.2 c8
        refine lv_aload_n hx hb dX9_findsParts_16 rfl (lv_at hl 0 rfl) ?_
        refine lv_aload_n hx hb dX9_findsParts_17 rfl (lv_at hl 0 rfl) ?_
        refine lv_iload_n hx hb dX9_findsParts_18 rfl (lv_at hl 1 rfl) ?_
        refine lv_iload_n hx hb dX9_findsParts_19 rfl (lv_at hl 2 rfl) ?_
        refine g_Vi (As := [.int a1, .int x2_5]) (rest := [.ref (ad 21 0)]) S hK hN hP hS (qX9_letterAt l D E ad L A hF hLm M6 a1 x2_5  _ hw) (cwV 2 hts gX9_findsParts_X9_letterAt rfl rfl rfl eX9_letterAt ⟨Nat.le_of_ble_eq_true rfl, Nat.le_of_ble_eq_true rfl⟩) (hLm.h (f := 21) (by decide)) (gC21 _ _ _ _) gcl9 rfl rfl rfl hl.1 (Nat.le_of_ble_eq_true rfl) ⟨Nat.zero_le _, Nat.zero_le _⟩ dX9_findsParts_20 (fun r10 M9 H locs hw hP hS => ?_)
        refine g_Vv (As := [.int r10]) (rest := []) S hK hN hP hS (qX9_addsPart l D E ad L A hF hLm M9 r10  _ hw) (cwV 1 hts gX9_findsParts_X9_addsPart rfl rfl rfl eX9_addsPart ⟨Nat.le_of_ble_eq_true rfl, Nat.le_of_ble_eq_true rfl⟩) (hLm.h (f := 21) (by decide)) (gC21 _ _ _ _) gcl9 rfl rfl rfl hl.1 (Nat.le_of_ble_eq_true rfl) ⟨Nat.zero_le _, Nat.zero_le _⟩ dX9_findsParts_23 (fun M11 H locs hw hP hS => ?_)
        refine lv_iload_n hx hb dX9_findsParts_26 rfl (lv_at hl 2 rfl) ?_
        refine lv_if_le (tgt := 51) hx hb dX9_findsParts_27 (by decide) (fun c12 => ?_) (fun c12 => ?_)
        · have hw := hw.1 c12
          refine lv_iinc (v := (x2_5 + (1 : Int32))) (lv' := [(2, .int (x2_5 + (1 : Int32))), (0, .ref (ad 21 0)), (1, .int a1)]) hx hb dX9_findsParts_51 hl (k := 2) rfl rfl (by decide) rfl (fun ls hl => ?_)
          refine lv_goto (tgt := 7) hx hb dX9_findsParts_54 (by decide) ?_
          exact ihn3 _ _ _ _ _ hw hP hS (lv_sub hl [1, 2, 0] rfl)
        · have hw := hw.2 c12
          refine lv_aload_n hx hb dX9_findsParts_30 rfl (lv_at hl 0 rfl) ?_
          refine lv_aload_n hx hb dX9_findsParts_31 rfl (lv_at hl 0 rfl) ?_
          refine lv_iload_n hx hb dX9_findsParts_32 rfl (lv_at hl 1 rfl) ?_
          refine lv_iload_n hx hb dX9_findsParts_33 rfl (lv_at hl 2 rfl) ?_
          refine lv_iconst (v := (1 : Int32)) hx hb dX9_findsParts_34 (by decide) ?_
          refine lv_isub hx hb dX9_findsParts_35 ?_
          refine g_Vi (As := [.int a1, .int (x2_5 - (1 : Int32))]) (rest := [.ref (ad 21 0)]) S hK hN hP hS (qX9_letterAt l D E ad L A hF hLm M11 a1 (x2_5 - (1 : Int32))  _ hw) (cwV 2 hts gX9_findsParts_X9_letterAt rfl rfl rfl eX9_letterAt ⟨Nat.le_of_ble_eq_true rfl, Nat.le_of_ble_eq_true rfl⟩) (hLm.h (f := 21) (by decide)) (gC21 _ _ _ _) gcl9 rfl rfl rfl hl.1 (Nat.le_of_ble_eq_true rfl) ⟨Nat.zero_le _, Nat.zero_le _⟩ dX9_findsParts_36 (fun r14 M13 H locs hw hP hS => ?_)
          refine lv_aload_n hx hb dX9_findsParts_39 rfl (lv_at hl 0 rfl) ?_
          refine lv_iload_n hx hb dX9_findsParts_40 rfl (lv_at hl 1 rfl) ?_
          refine lv_iload_n hx hb dX9_findsParts_41 rfl (lv_at hl 2 rfl) ?_
          refine g_Vi (As := [.int a1, .int x2_5]) (rest := [.int r14, .ref (ad 21 0)]) S hK hN hP hS (qX9_letterAt l D E ad L A hF hLm M13 a1 x2_5  _ hw) (cwV 2 hts gX9_findsParts_X9_letterAt rfl rfl rfl eX9_letterAt ⟨Nat.le_of_ble_eq_true rfl, Nat.le_of_ble_eq_true rfl⟩) (hLm.h (f := 21) (by decide)) (gC21 _ _ _ _) gcl9 rfl rfl rfl hl.1 (Nat.le_of_ble_eq_true rfl) ⟨Nat.zero_le _, Nat.zero_le _⟩ dX9_findsParts_42 (fun r16 M15 H locs hw hP hS => ?_)
          refine g_Si (As := [.int r14, .int r16]) (rest := [.ref (ad 21 0)]) S hK hN hP hS (qX9_joinOf l D E ad L A hF hLm M15 r14 r16  _ hw) (va_cwS 2 hts gX9_findsParts_X9_joinOf rfl rfl rfl eX9_joinOf.2 ⟨Nat.le_of_ble_eq_true rfl, Nat.le_of_ble_eq_true rfl⟩) rfl rfl hl.1 (Nat.le_of_ble_eq_true rfl) ⟨Nat.zero_le _, Nat.zero_le _⟩ dX9_findsParts_45 (fun r18 M17 H locs hw hP hS => ?_)
          refine g_Vv (As := [.int r18]) (rest := []) S hK hN hP hS (qX9_addsPart l D E ad L A hF hLm M17 r18  _ hw) (cwV 1 hts gX9_findsParts_X9_addsPart rfl rfl rfl eX9_addsPart ⟨Nat.le_of_ble_eq_true rfl, Nat.le_of_ble_eq_true rfl⟩) (hLm.h (f := 21) (by decide)) (gC21 _ _ _ _) gcl9 rfl rfl rfl hl.1 (Nat.le_of_ble_eq_true rfl) ⟨Nat.zero_le _, Nat.zero_le _⟩ dX9_findsParts_48 (fun M19 H locs hw hP hS => ?_)
          refine lv_iinc (v := (x2_5 + (1 : Int32))) (lv' := [(2, .int (x2_5 + (1 : Int32))), (0, .ref (ad 21 0)), (1, .int a1)]) hx hb dX9_findsParts_51 hl (k := 2) rfl rfl (by decide) rfl (fun ls hl => ?_)
          refine lv_goto (tgt := 7) hx hb dX9_findsParts_54 (by decide) ?_
          exact ihn3 _ _ _ _ _ hw hP hS (lv_sub hl [1, 2, 0] rfl)
  exact hlX9_findsParts_L7 n22 _ _ _ _ _ hw hP hS (lv_sub hl [1, 2, 0] rfl)
abbrev rmX9_hasPart : Room := { frames := 2, cells := 0, slots := 0, locals := 45 }
theorem eX9_hasPart : yX9_hasPart.cls = RX9 ∧ yX9_hasPart.cls ≠ "java/lang/invoke/MethodHandle" ∧ yX9_hasPart.cls ≠ "java/lang/invoke/VarHandle" ∧ (parseMethodDescriptor yX9_hasPart.desc).map (fun d => d.parameters.length) = some 2 := by decide +kernel
theorem iX9_hasPart_X9 : ∀ w ∈ wsX90, w ∈ wsX9_hasPart := fun _ h => List.mem_cons_of_mem _ (List.mem_append_right _ (h))
theorem mX9_hasPart_1 : Cond.fieldLink RX9 61 "PracticeSheetsModel" "parts" "I" ∈ wsX9_hasPart := List.mem_of_getElem? (i := 1) rfl
theorem mX9_hasPart_2 : Cond.fieldLink RX9 25 "PracticeSheetsModel" "part" "[I" ∈ wsX9_hasPart := List.mem_of_getElem? (i := 2) rfl
set_option maxHeartbeats 4000000 in
set_option maxRecDepth 100000 in
theorem qX9_hasPart (l : Launch) (D : va_G) (E : Nat → ClassId) (ad : Nat → Nat → Nat) (L : List (Nat × Nat)) (A : Nat → Prop) (hF : gF E ad L A) (hLm : gLm L) (M0 : gW) (a1 : Int32) (a2 : Int32)  (K : Int32 → gW → Prop) (hw : wX9_hasPart M0 a1 a2 K) : Met l yX9_hasPart wsX9_hasPart rmX9_hasPart (va_Pc [.ref (ad 21 0), .int a1, .int a2] (gPre D E ad L M0)) (gQi D E ad L A K) 0 0 A := by
  refine Met.ofW (cc := cX9_hasPart) (maxL := 5) (ret := (some .boolean)) (by decide) rfl ?_
  intro p e s m args below meth c s₁ B hml hv
  obtain ⟨rfl, hP, hK, hN⟩ := hv
  have hx := B.exec
  have hb := B.bytes
  have hr := B.returns
  have hts := atoms_spec (ws := wsX9_hasPart) B.pre
  have hown : s.vm.findClass RX9 = some m.cls := findClass_of_methodNamed B.named
  have hlocks := B.notSynchronized
  have S : CallFix p m c cX9_hasPart 5 s ([.ref (ad 21 0), .int a1, .int a2] : List Value).toArray wsX9_hasPart RX9 := ⟨hx, hb, hml, hown, hts⟩
  have hS : va_S A s.heap s.heap [] := va_S.rf
  have hl := lv_entry ([.ref (ad 21 0), .int a1, .int a2]) (n := 5) (Nat.le_of_ble_eq_true rfl)
  rw [lg_entry_eq]
  generalize (lg_sl ([.ref (ad 21 0), .int a1, .int a2]) ++ List.replicate (5 - (lg_sl ([.ref (ad 21 0), .int a1, .int a2])).length) Slot.unset).toArray = ls at hl ⊢
  have hl : lv_has ls 5 [(0, .ref (ad 21 0)), (1, .int a1), (2, .int a2)] := hl
  refine lv_aload_n hx hb dX9_hasPart_0 rfl (lv_at hl 0 rfl) ?_
  refine lv_iload_n hx hb dX9_hasPart_1 rfl (lv_at hl 1 rfl) ?_
  refine g_Vv (As := [.int a1]) (rest := []) S hK hN hP hS (qX9_findsParts l D E ad L A hF hLm M0 a1  _ hw) (cwV 1 hts gX9_hasPart_X9_findsParts rfl rfl rfl eX9_findsParts ⟨Nat.le_of_ble_eq_true rfl, Nat.le_of_ble_eq_true rfl⟩) (hLm.h (f := 21) (by decide)) (gC21 _ _ _ _) gcl9 rfl rfl rfl hl.1 (Nat.le_of_ble_eq_true rfl) ⟨Nat.zero_le _, Nat.zero_le _⟩ dX9_hasPart_2 (fun M1 H locs hw hP hS => ?_)
  refine lv_iconst (v := (0 : Int32)) hx hb dX9_hasPart_5 (by decide) ?_
  refine lv_istore_n (lv' := [(3, .int (0 : Int32)), (0, .ref (ad 21 0)), (1, .int a1), (2, .int a2)]) hx hb dX9_hasPart_6 rfl hl (by decide) rfl (fun ls hl => ?_)
  refine lv_iconst (v := (0 : Int32)) hx hb dX9_hasPart_7 (by decide) ?_
  refine lv_istore (lv' := [(4, .int (0 : Int32)), (3, .int (0 : Int32)), (0, .ref (ad 21 0)), (1, .int a1), (2, .int a2)]) hx hb dX9_hasPart_8 hl (by decide) rfl (fun ls hl => ?_)
  obtain ⟨n14, hw⟩ := hw
  have hxX9_hasPart_L10_0 : ∀ (M10 : gW) (x3_11 : Int32) (x4_12 : Int32) (H : Heap) (locs : List Loc) (ls : Array Slot), ((x3_11 = 0 ∨ x3_11 = 1) ∧ (K x3_11 M10)) → va_P D vwCl (gL E ad L M10) H → va_S A s.heap H locs → lv_has ls 5 [(0, .ref (ad 21 0)), (1, .int a1), (2, .int a2), (3, .int x3_11), (4, .int x4_12)] → W p l e (headSpec wsX9_hasPart rmX9_hasPart).room s m (([.ref (ad 21 0), .int a1, .int a2] : List Value).toArray) below meth c H locs 0 0 (MQ below (gQi D E ad L A K) ([.ref (ad 21 0), .int a1, .int a2] : List Value).toArray s 0 0 A) (F0 m 46 ls []) := by
    intro M10 x3_11 x4_12 H locs ls hw hP hS hl
    refine lv_iload_n hx hb dX9_hasPart_46 rfl (lv_at hl 3 rfl) ?_
    have hb13 := hw.1
    have hw := hw.2
    exact g_zret hx hb hr hlocks hb13 hw hP hS dX9_hasPart_47
  have hlX9_hasPart_L10 : ∀ (n2 : Nat) (M3 : gW) (x3_4 : Int32) (x4_5 : Int32) (H : Heap) (locs : List Loc) (ls : Array Slot), wX9_hasPart_L10 a2 (fun M10 x3_11 x4_12 => ((x3_11 = 0 ∨ x3_11 = 1) ∧ (K x3_11 M10))) n2 M3 x3_4 x4_5 → va_P D vwCl (gL E ad L M3) H → va_S A s.heap H locs → lv_has ls 5 [(0, .ref (ad 21 0)), (1, .int a1), (2, .int a2), (3, .int x3_4), (4, .int x4_5)] → W p l e (headSpec wsX9_hasPart rmX9_hasPart).room s m (([.ref (ad 21 0), .int a1, .int a2] : List Value).toArray) below meth c H locs 0 0 (MQ below (gQi D E ad L A K) ([.ref (ad 21 0), .int a1, .int a2] : List Value).toArray s 0 0 A) (F0 m 10 ls []) := by
    intro n2
    induction n2 with
    | zero => intro M3 x3_4 x4_5 H locs ls hw; exact False.elim hw
    | succ n2 ihn2 =>
      intro M3 x3_4 x4_5 H locs ls hw hP hS hl
      refine lv_iload hx hb dX9_hasPart_10 (lv_at hl 4 rfl) ?_
      refine lv_aload_n hx hb dX9_hasPart_12 rfl (lv_at hl 0 rfl) ?_
      refine g_get (v := .int (M3 21 0 8)) hx hb hts hown hK hP (hLm.h (f := 21) (by decide)) (gC21 _ _ _ _) gcl9 iX9_hasPart_X9 8 (by decide) mX9_hasPart_1 rfl rfl dX9_hasPart_13 ?_
      refine lv_icmp_ge (tgt := 46) hx hb dX9_hasPart_16 (by decide) (fun c6 => ?_) (fun c6 => ?_)
      · have hw := hw.1 c6
        exact hxX9_hasPart_L10_0 _ _ _ _ _ _ hw hP hS (lv_sub hl [0, 1, 2, 3, 4] rfl)
      · have hw := hw.2 c6
        refine lv_iload_n hx hb dX9_hasPart_19 rfl (lv_at hl 3 rfl) ?_
        refine lv_if_ne (tgt := 34) hx hb dX9_hasPart_20 (by decide) (fun c7 => ?_) (fun c7 => ?_)
        · have hw := hw.2 c7
          refine lv_iconst (v := (1 : Int32)) hx hb dX9_hasPart_34 (by decide) ?_
          refine lv_goto (tgt := 39) hx hb dX9_hasPart_35 (by decide) ?_
          refine lv_istore_n (lv' := [(3, .int (1 : Int32)), (0, .ref (ad 21 0)), (1, .int a1), (2, .int a2), (4, .int x4_5)]) hx hb dX9_hasPart_39 rfl hl (by decide) rfl (fun ls hl => ?_)
          refine lv_iinc (v := (x4_5 + (1 : Int32))) (lv' := [(4, .int (x4_5 + (1 : Int32))), (3, .int (1 : Int32)), (0, .ref (ad 21 0)), (1, .int a1), (2, .int a2)]) hx hb dX9_hasPart_40 hl (k := 4) rfl rfl (by decide) rfl (fun ls hl => ?_)
          refine lv_goto (tgt := 10) hx hb dX9_hasPart_43 (by decide) ?_
          exact ihn2 _ _ _ _ _ _ hw hP hS (lv_sub hl [2, 3, 4, 1, 0] rfl)
        · have hw := hw.1 c7
          refine lv_aload_n hx hb dX9_hasPart_23 rfl (lv_at hl 0 rfl) ?_
          refine g_get (v := .ref (ad 22 5)) hx hb hts hown hK hP (hLm.h (f := 21) (by decide)) (gC21 _ _ _ _) gcl9 iX9_hasPart_X9 7 (by decide) mX9_hasPart_2 rfl rfl dX9_hasPart_24 ?_
          refine lv_iload hx hb dX9_hasPart_27 (lv_at hl 4 rfl) ?_
          have hb8 := hw.1
          have hw := hw.2
          refine g_iald (n := 29) hx hb hK hP (hLm.h (f := 22) (by decide)) rfl hb8 dX9_hasPart_29 ?_
          refine lv_iload_n hx hb dX9_hasPart_30 rfl (lv_at hl 2 rfl) ?_
          refine lv_icmp_ne (tgt := 38) hx hb dX9_hasPart_31 (by decide) (fun c9 => ?_) (fun c9 => ?_)
          · have hw := hw.2 c9
            refine lv_iconst (v := (0 : Int32)) hx hb dX9_hasPart_38 (by decide) ?_
            refine lv_istore_n (lv' := [(3, .int (0 : Int32)), (0, .ref (ad 21 0)), (1, .int a1), (2, .int a2), (4, .int x4_5)]) hx hb dX9_hasPart_39 rfl hl (by decide) rfl (fun ls hl => ?_)
            refine lv_iinc (v := (x4_5 + (1 : Int32))) (lv' := [(4, .int (x4_5 + (1 : Int32))), (3, .int (0 : Int32)), (0, .ref (ad 21 0)), (1, .int a1), (2, .int a2)]) hx hb dX9_hasPart_40 hl (k := 4) rfl rfl (by decide) rfl (fun ls hl => ?_)
            refine lv_goto (tgt := 10) hx hb dX9_hasPart_43 (by decide) ?_
            exact ihn2 _ _ _ _ _ _ hw hP hS (lv_sub hl [2, 3, 4, 1, 0] rfl)
          · have hw := hw.1 c9
            refine lv_iconst (v := (1 : Int32)) hx hb dX9_hasPart_34 (by decide) ?_
            refine lv_goto (tgt := 39) hx hb dX9_hasPart_35 (by decide) ?_
            refine lv_istore_n (lv' := [(3, .int (1 : Int32)), (0, .ref (ad 21 0)), (1, .int a1), (2, .int a2), (4, .int x4_5)]) hx hb dX9_hasPart_39 rfl hl (by decide) rfl (fun ls hl => ?_)
            refine lv_iinc (v := (x4_5 + (1 : Int32))) (lv' := [(4, .int (x4_5 + (1 : Int32))), (3, .int (1 : Int32)), (0, .ref (ad 21 0)), (1, .int a1), (2, .int a2)]) hx hb dX9_hasPart_40 hl (k := 4) rfl rfl (by decide) rfl (fun ls hl => ?_)
            refine lv_goto (tgt := 10) hx hb dX9_hasPart_43 (by decide) ?_
            exact ihn2 _ _ _ _ _ _ hw hP hS (lv_sub hl [2, 3, 4, 1, 0] rfl)
  exact hlX9_hasPart_L10 n14 _ _ _ _ _ _ hw hP hS (lv_sub hl [2, 3, 4, 1, 0] rfl)
