/-! ===== LAYER 1: contracts, walked (printed by wip/whole/gen.py) ===== -/
abbrev rmX9_wordsWith : Room := { frames := 3, cells := 0, slots := 0, locals := 69 }
theorem eX9_wordsWith : yX9_wordsWith.cls = RX9 ∧ yX9_wordsWith.cls ≠ "java/lang/invoke/MethodHandle" ∧ yX9_wordsWith.cls ≠ "java/lang/invoke/VarHandle" ∧ (parseMethodDescriptor yX9_wordsWith.desc).map (fun d => d.parameters.length) = some 1 := by decide +kernel
theorem iX9_wordsWith_X9 : ∀ w ∈ wsX90, w ∈ wsX9_wordsWith := fun _ h => List.mem_cons_of_mem _ (List.mem_append_right _ (h))
theorem mX9_wordsWith_1 : Cond.fieldLink RX9 7 "PracticeSheetsModel" "all" "[I" ∈ wsX9_wordsWith := List.mem_of_getElem? (i := 1) rfl
set_option maxHeartbeats 4000000 in
set_option maxRecDepth 100000 in
theorem qX9_wordsWith (l : Launch) (D : va_G) (E : Nat → ClassId) (ad : Nat → Nat → Nat) (L : List (Nat × Nat)) (A : Nat → Prop) (hF : gF E ad L A) (hLm : gLm L) (M0 : gW) (a1 : Int32)  (K : Int32 → gW → Prop) (hw : wX9_wordsWith M0 a1 K) : Met l yX9_wordsWith wsX9_wordsWith rmX9_wordsWith (va_Pc [.ref (ad 21 0), .int a1] (gPre D E ad L M0)) (gQi D E ad L A K) 0 0 A := by
  refine Met.ofW (cc := cX9_wordsWith) (maxL := 4) (ret := (some .int)) (by decide) rfl ?_
  intro p e s m args below meth c s₁ B hml hv
  obtain ⟨rfl, hP, hK, hN⟩ := hv
  have hx := B.exec
  have hb := B.bytes
  have hr := B.returns
  have hts := atoms_spec (ws := wsX9_wordsWith) B.pre
  have hown : s.vm.findClass RX9 = some m.cls := findClass_of_methodNamed B.named
  have hlocks := B.notSynchronized
  have S : CallFix p m c cX9_wordsWith 4 s ([.ref (ad 21 0), .int a1] : List Value).toArray wsX9_wordsWith RX9 := ⟨hx, hb, hml, hown, hts⟩
  have hS : va_S A s.heap s.heap [] := va_S.rf
  have hl := lv_entry ([.ref (ad 21 0), .int a1]) (n := 4) (Nat.le_of_ble_eq_true rfl)
  rw [lg_entry_eq]
  generalize (lg_sl ([.ref (ad 21 0), .int a1]) ++ List.replicate (4 - (lg_sl ([.ref (ad 21 0), .int a1])).length) Slot.unset).toArray = ls at hl ⊢
  have hl : lv_has ls 4 [(0, .ref (ad 21 0)), (1, .int a1)] := hl
  refine lv_iconst (v := (0 : Int32)) hx hb dX9_wordsWith_0 (by decide) ?_
  refine lv_istore_n (lv' := [(2, .int (0 : Int32)), (0, .ref (ad 21 0)), (1, .int a1)]) hx hb dX9_wordsWith_1 rfl hl (by decide) rfl (fun ls hl => ?_)
  refine lv_iconst (v := (0 : Int32)) hx hb dX9_wordsWith_2 (by decide) ?_
  refine lv_istore_n (lv' := [(3, .int (0 : Int32)), (2, .int (0 : Int32)), (0, .ref (ad 21 0)), (1, .int a1)]) hx hb dX9_wordsWith_3 rfl hl (by decide) rfl (fun ls hl => ?_)
  obtain ⟨n13, hw⟩ := hw
  have hxX9_wordsWith_L4_0 : ∀ (M10 : gW) (x2_11 : Int32) (x3_12 : Int32) (H : Heap) (locs : List Loc) (ls : Array Slot), (K x2_11 M10) → va_P D vwCl (gL E ad L M10) H → va_S A s.heap H locs → lv_has ls 4 [(0, .ref (ad 21 0)), (1, .int a1), (2, .int x2_11), (3, .int x3_12)] → W p l e (headSpec wsX9_wordsWith rmX9_wordsWith).room s m (([.ref (ad 21 0), .int a1] : List Value).toArray) below meth c H locs 0 0 (MQ below (gQi D E ad L A K) ([.ref (ad 21 0), .int a1] : List Value).toArray s 0 0 A) (F0 m 37 ls []) := by
    intro M10 x2_11 x3_12 H locs ls hw hP hS hl
    refine lv_iload_n hx hb dX9_wordsWith_37 rfl (lv_at hl 2 rfl) ?_
    exact g_iret hx hb hr hlocks hw hP hS dX9_wordsWith_38
  have hlX9_wordsWith_L4 : ∀ (n1 : Nat) (M2 : gW) (x2_3 : Int32) (x3_4 : Int32) (H : Heap) (locs : List Loc) (ls : Array Slot), wX9_wordsWith_L4 a1 (fun M10 x2_11 x3_12 => (K x2_11 M10)) n1 M2 x2_3 x3_4 → va_P D vwCl (gL E ad L M2) H → va_S A s.heap H locs → lv_has ls 4 [(0, .ref (ad 21 0)), (1, .int a1), (2, .int x2_3), (3, .int x3_4)] → W p l e (headSpec wsX9_wordsWith rmX9_wordsWith).room s m (([.ref (ad 21 0), .int a1] : List Value).toArray) below meth c H locs 0 0 (MQ below (gQi D E ad L A K) ([.ref (ad 21 0), .int a1] : List Value).toArray s 0 0 A) (F0 m 4 ls []) := by
    intro n1
    induction n1 with
    | zero => intro M2 x2_3 x3_4 H locs ls hw; exact False.elim hw
    | succ n1 ihn1 =>
      intro M2 x2_3 x3_4 H locs ls hw hP hS hl
      refine lv_iload_n hx hb dX9_wordsWith_4 rfl (lv_at hl 3 rfl) ?_
      refine lv_aload_n hx hb dX9_wordsWith_5 rfl (lv_at hl 0 rfl) ?_
      refine g_get (v := .ref (ad 22 0)) hx hb hts hown hK hP (hLm.h (f := 21) (by decide)) (gC21 _ _ _ _) gcl9 iX9_wordsWith_X9 0 (by decide) mX9_wordsWith_1 rfl rfl dX9_wordsWith_6 ?_
      refine lv_iconst (v := (5 : Int32)) hx hb dX9_wordsWith_9 (by decide) ?_
      have hb5 := hw.1
      have hw := hw.2
      refine g_iald (n := 1730) hx hb hK hP (hLm.h (f := 22) (by decide)) rfl hb5 dX9_wordsWith_10 ?_
      refine lv_icmp_ge (tgt := 37) hx hb dX9_wordsWith_11 (by decide) (fun c6 => ?_) (fun c6 => ?_)
      · have hw := hw.1 c6
        exact hxX9_wordsWith_L4_0 _ _ _ _ _ _ hw hP hS (lv_sub hl [0, 1, 2, 3] rfl)
      · have hw := hw.2 c6
        refine lv_iload_n hx hb dX9_wordsWith_14 rfl (lv_at hl 2 rfl) ?_
        refine lv_aload_n hx hb dX9_wordsWith_15 rfl (lv_at hl 0 rfl) ?_
        refine lv_iload_n hx hb dX9_wordsWith_16 rfl (lv_at hl 3 rfl) ?_
        refine lv_iload_n hx hb dX9_wordsWith_17 rfl (lv_at hl 1 rfl) ?_
        refine g_Vi (As := [.int x3_4, .int a1]) (rest := [.int x2_3]) S hK hN hP hS (qX9_hasPart l D E ad L A hF hLm M2 x3_4 a1  _ hw) (cwV 2 hts gX9_wordsWith_X9_hasPart rfl rfl rfl eX9_hasPart ⟨Nat.le_of_ble_eq_true rfl, Nat.le_of_ble_eq_true rfl⟩) (hLm.h (f := 21) (by decide)) (gC21 _ _ _ _) gcl9 rfl rfl rfl hl.1 (Nat.le_of_ble_eq_true rfl) ⟨Nat.zero_le _, Nat.zero_le _⟩ dX9_wordsWith_18 (fun r8 M7 H locs hw hP hS => ?_)
        refine lv_if_eq (tgt := 28) hx hb dX9_wordsWith_21 (by decide) (fun c9 => ?_) (fun c9 => ?_)
        · have hw := hw.1 c9
          refine lv_iconst (v := (0 : Int32)) hx hb dX9_wordsWith_28 (by decide) ?_
          refine lv_iadd hx hb dX9_wordsWith_29 ?_
          refine lv_istore_n (lv' := [(2, .int (x2_3 + (0 : Int32))), (0, .ref (ad 21 0)), (1, .int a1), (3, .int x3_4)]) hx hb dX9_wordsWith_30 rfl hl (by decide) rfl (fun ls hl => ?_)
          refine lv_iinc (v := (x3_4 + (1 : Int32))) (lv' := [(3, .int (x3_4 + (1 : Int32))), (2, .int (x2_3 + (0 : Int32))), (0, .ref (ad 21 0)), (1, .int a1)]) hx hb dX9_wordsWith_31 hl (k := 3) rfl rfl (by decide) rfl (fun ls hl => ?_)
          refine lv_goto (tgt := 4) hx hb dX9_wordsWith_34 (by decide) ?_
          exact ihn1 _ _ _ _ _ _ hw hP hS (lv_sub hl [2, 3, 1, 0] rfl)
        · have hw := hw.2 c9
          refine lv_iconst (v := (1 : Int32)) hx hb dX9_wordsWith_24 (by decide) ?_
          refine lv_goto (tgt := 29) hx hb dX9_wordsWith_25 (by decide) ?_
          refine lv_iadd hx hb dX9_wordsWith_29 ?_
          refine lv_istore_n (lv' := [(2, .int (x2_3 + (1 : Int32))), (0, .ref (ad 21 0)), (1, .int a1), (3, .int x3_4)]) hx hb dX9_wordsWith_30 rfl hl (by decide) rfl (fun ls hl => ?_)
          refine lv_iinc (v := (x3_4 + (1 : Int32))) (lv' := [(3, .int (x3_4 + (1 : Int32))), (2, .int (x2_3 + (1 : Int32))), (0, .ref (ad 21 0)), (1, .int a1)]) hx hb dX9_wordsWith_31 hl (k := 3) rfl rfl (by decide) rfl (fun ls hl => ?_)
          refine lv_goto (tgt := 4) hx hb dX9_wordsWith_34 (by decide) ?_
          exact ihn1 _ _ _ _ _ _ hw hP hS (lv_sub hl [2, 3, 1, 0] rfl)
  exact hlX9_wordsWith_L4 n13 _ _ _ _ _ _ hw hP hS (lv_sub hl [2, 3, 1, 0] rfl)
abbrev rmX9_gainOf : Room := { frames := 2, cells := 0, slots := 0, locals := 45 }
theorem eX9_gainOf : yX9_gainOf.cls = RX9 ∧ yX9_gainOf.cls ≠ "java/lang/invoke/MethodHandle" ∧ yX9_gainOf.cls ≠ "java/lang/invoke/VarHandle" ∧ (parseMethodDescriptor yX9_gainOf.desc).map (fun d => d.parameters.length) = some 1 := by decide +kernel
theorem iX9_gainOf_X9 : ∀ w ∈ wsX90, w ∈ wsX9_gainOf := fun _ h => List.mem_cons_of_mem _ (List.mem_append_right _ (h))
theorem mX9_gainOf_1 : Cond.fieldLink RX9 61 "PracticeSheetsModel" "parts" "I" ∈ wsX9_gainOf := List.mem_of_getElem? (i := 1) rfl
theorem mX9_gainOf_2 : Cond.fieldLink RX9 25 "PracticeSheetsModel" "part" "[I" ∈ wsX9_gainOf := List.mem_of_getElem? (i := 2) rfl
theorem mX9_gainOf_4 : Cond.fieldLink RX9 34 "PracticeSheetsModel" "isCovered" "[I" ∈ wsX9_gainOf := List.mem_of_getElem? (i := 4) rfl
theorem mX9_gainOf_3 : Cond.fieldLink RX9 7 "PracticeSheetsModel" "all" "[I" ∈ wsX9_gainOf := List.mem_of_getElem? (i := 3) rfl
set_option maxHeartbeats 4000000 in
set_option maxRecDepth 100000 in
theorem qX9_gainOf (l : Launch) (D : va_G) (E : Nat → ClassId) (ad : Nat → Nat → Nat) (L : List (Nat × Nat)) (A : Nat → Prop) (hF : gF E ad L A) (hLm : gLm L) (M0 : gW) (a1 : Int32)  (K : Int32 → gW → Prop) (hw : wX9_gainOf M0 a1 K) : Met l yX9_gainOf wsX9_gainOf rmX9_gainOf (va_Pc [.ref (ad 21 0), .int a1] (gPre D E ad L M0)) (gQi D E ad L A K) 0 0 A := by
  refine Met.ofW (cc := cX9_gainOf) (maxL := 5) (ret := (some .int)) (by decide) rfl ?_
  intro p e s m args below meth c s₁ B hml hv
  obtain ⟨rfl, hP, hK, hN⟩ := hv
  have hx := B.exec
  have hb := B.bytes
  have hr := B.returns
  have hts := atoms_spec (ws := wsX9_gainOf) B.pre
  have hown : s.vm.findClass RX9 = some m.cls := findClass_of_methodNamed B.named
  have hlocks := B.notSynchronized
  have S : CallFix p m c cX9_gainOf 5 s ([.ref (ad 21 0), .int a1] : List Value).toArray wsX9_gainOf RX9 := ⟨hx, hb, hml, hown, hts⟩
  have hS : va_S A s.heap s.heap [] := va_S.rf
  have hl := lv_entry ([.ref (ad 21 0), .int a1]) (n := 5) (Nat.le_of_ble_eq_true rfl)
  rw [lg_entry_eq]
  generalize (lg_sl ([.ref (ad 21 0), .int a1]) ++ List.replicate (5 - (lg_sl ([.ref (ad 21 0), .int a1])).length) Slot.unset).toArray = ls at hl ⊢
  have hl : lv_has ls 5 [(0, .ref (ad 21 0)), (1, .int a1)] := hl
  refine lv_aload_n hx hb dX9_gainOf_0 rfl (lv_at hl 0 rfl) ?_
  refine lv_iload_n hx hb dX9_gainOf_1 rfl (lv_at hl 1 rfl) ?_
  refine g_Vv (As := [.int a1]) (rest := []) S hK hN hP hS (qX9_findsParts l D E ad L A hF hLm M0 a1  _ hw) (cwV 1 hts gX9_gainOf_X9_findsParts rfl rfl rfl eX9_findsParts ⟨Nat.le_of_ble_eq_true rfl, Nat.le_of_ble_eq_true rfl⟩) (hLm.h (f := 21) (by decide)) (gC21 _ _ _ _) gcl9 rfl rfl rfl hl.1 (Nat.le_of_ble_eq_true rfl) ⟨Nat.zero_le _, Nat.zero_le _⟩ dX9_gainOf_2 (fun M1 H locs hw hP hS => ?_)
  refine lv_iconst (v := (0 : Int32)) hx hb dX9_gainOf_5 (by decide) ?_
  refine lv_istore_n (lv' := [(2, .int (0 : Int32)), (0, .ref (ad 21 0)), (1, .int a1)]) hx hb dX9_gainOf_6 rfl hl (by decide) rfl (fun ls hl => ?_)
  refine lv_iconst (v := (0 : Int32)) hx hb dX9_gainOf_7 (by decide) ?_
  refine lv_istore_n (lv' := [(3, .int (0 : Int32)), (2, .int (0 : Int32)), (0, .ref (ad 21 0)), (1, .int a1)]) hx hb dX9_gainOf_8 rfl hl (by decide) rfl (fun ls hl => ?_)
  obtain ⟨n21, hw⟩ := hw
  have hxX9_gainOf_L9_0 : ∀ (M18 : gW) (x2_19 : Int32) (x3_20 : Int32) (H : Heap) (locs : List Loc) (ls : Array Slot), (K x2_19 M18) → va_P D vwCl (gL E ad L M18) H → va_S A s.heap H locs → lv_has ls 5 [(0, .ref (ad 21 0)), (1, .int a1), (2, .int x2_19), (3, .int x3_20)] → W p l e (headSpec wsX9_gainOf rmX9_gainOf).room s m (([.ref (ad 21 0), .int a1] : List Value).toArray) below meth c H locs 0 0 (MQ below (gQi D E ad L A K) ([.ref (ad 21 0), .int a1] : List Value).toArray s 0 0 A) (F0 m 80 ls []) := by
    intro M18 x2_19 x3_20 H locs ls hw hP hS hl
    refine lv_iload_n hx hb dX9_gainOf_80 rfl (lv_at hl 2 rfl) ?_
    exact g_iret hx hb hr hlocks hw hP hS dX9_gainOf_81
  have hlX9_gainOf_L9 : ∀ (n2 : Nat) (M3 : gW) (x2_4 : Int32) (x3_5 : Int32) (H : Heap) (locs : List Loc) (ls : Array Slot), wX9_gainOf_L9 (fun M18 x2_19 x3_20 => (K x2_19 M18)) n2 M3 x2_4 x3_5 → va_P D vwCl (gL E ad L M3) H → va_S A s.heap H locs → lv_has ls 5 [(0, .ref (ad 21 0)), (1, .int a1), (2, .int x2_4), (3, .int x3_5)] → W p l e (headSpec wsX9_gainOf rmX9_gainOf).room s m (([.ref (ad 21 0), .int a1] : List Value).toArray) below meth c H locs 0 0 (MQ below (gQi D E ad L A K) ([.ref (ad 21 0), .int a1] : List Value).toArray s 0 0 A) (F0 m 9 ls []) := by
    intro n2
    induction n2 with
    | zero => intro M3 x2_4 x3_5 H locs ls hw; exact False.elim hw
    | succ n2 ihn2 =>
      intro M3 x2_4 x3_5 H locs ls hw hP hS hl
      refine lv_iload_n hx hb dX9_gainOf_9 rfl (lv_at hl 3 rfl) ?_
      refine lv_aload_n hx hb dX9_gainOf_10 rfl (lv_at hl 0 rfl) ?_
      refine g_get (v := .int (M3 21 0 8)) hx hb hts hown hK hP (hLm.h (f := 21) (by decide)) (gC21 _ _ _ _) gcl9 iX9_gainOf_X9 8 (by decide) mX9_gainOf_1 rfl rfl dX9_gainOf_11 ?_
      refine lv_icmp_ge (tgt := 80) hx hb dX9_gainOf_14 (by decide) (fun c6 => ?_) (fun c6 => ?_)
      · have hw := hw.1 c6
        exact hxX9_gainOf_L9_0 _ _ _ _ _ _ hw hP hS (lv_sub hl [0, 1, 2, 3] rfl)
      · have hw := hw.2 c6
        refine lv_aload_n hx hb dX9_gainOf_17 rfl (lv_at hl 0 rfl) ?_
        refine g_get (v := .ref (ad 22 5)) hx hb hts hown hK hP (hLm.h (f := 21) (by decide)) (gC21 _ _ _ _) gcl9 iX9_gainOf_X9 7 (by decide) mX9_gainOf_2 rfl rfl dX9_gainOf_18 ?_
        refine lv_iload_n hx hb dX9_gainOf_21 rfl (lv_at hl 3 rfl) ?_
        have hb7 := hw.1
        have hw := hw.2
        refine g_iald (n := 29) hx hb hK hP (hLm.h (f := 22) (by decide)) rfl hb7 dX9_gainOf_22 ?_
        refine lv_istore (lv' := [(4, .int (M3 22 5 x3_5.toNatClampNeg)), (0, .ref (ad 21 0)), (1, .int a1), (2, .int x2_4), (3, .int x3_5)]) hx hb dX9_gainOf_23 hl (by decide) rfl (fun ls hl => ?_)
        refine lv_iload_n hx hb dX9_gainOf_25 rfl (lv_at hl 3 rfl) ?_
        refine lv_aload_n hx hb dX9_gainOf_26 rfl (lv_at hl 1 rfl) ?_
        refine lv_iload hx hb dX9_gainOf_27 (lv_at hl 0 rfl) ?_
        refine g_Vi (As := [.int (M3 22 5 x3_5.toNatClampNeg)]) (rest := [.int x2_4]) S hK hN hP hS (qX9_isUntried l D E ad L A hF hLm M3 (M3 22 5 x3_5.toNatClampNeg)  _ hw) (cwV 1 hts gX9_gainOf_X9_isUntried rfl rfl rfl eX9_isUntried ⟨Nat.le_of_ble_eq_true rfl, Nat.le_of_ble_eq_true rfl⟩) (hLm.h (f := 21) (by decide)) (gC21 _ _ _ _) gcl9 rfl rfl rfl hl.1 (Nat.le_of_ble_eq_true rfl) ⟨Nat.zero_le _, Nat.zero_le _⟩ dX9_gainOf_29 (fun r9 M8 H locs hw hP hS => ?_)
        refine lv_if_eq (tgt := 44) hx hb dX9_gainOf_32 (by decide) (fun c10 => ?_) (fun c10 => ?_)
        · have hw := hw.1 c10
          refine lv_aload_n hx hb dX9_gainOf_44 rfl (lv_at hl 1 rfl) ?_
          refine g_get (v := .ref (ad 22 8)) hx hb hts hown hK hP (hLm.h (f := 21) (by decide)) (gC21 _ _ _ _) gcl9 iX9_gainOf_X9 12 (by decide) mX9_gainOf_4 rfl rfl dX9_gainOf_45 ?_
          refine lv_iload hx hb dX9_gainOf_48 (lv_at hl 0 rfl) ?_
          have hb11 := hw.1
          have hw := hw.2
          refine g_iald (n := 702) hx hb hK hP (hLm.h (f := 22) (by decide)) rfl hb11 dX9_gainOf_50 ?_
          refine lv_iconst (v := (1 : Int32)) hx hb dX9_gainOf_51 (by decide) ?_
          refine lv_icmp_ne (tgt := 66) hx hb dX9_gainOf_52 (by decide) (fun c12 => ?_) (fun c12 => ?_)
          · have hw := hw.2 c12
            refine lv_aload_n hx hb dX9_gainOf_66 rfl (lv_at hl 1 rfl) ?_
            refine lv_iload hx hb dX9_gainOf_67 (lv_at hl 0 rfl) ?_
            refine g_Vi (As := [.int (M3 22 5 x3_5.toNatClampNeg)]) (rest := [.int x2_4]) S hK hN hP hS (qX9_needOf l D E ad L A hF hLm M8 (M3 22 5 x3_5.toNatClampNeg)  _ hw) (cwV 1 hts gX9_gainOf_X9_needOf rfl rfl rfl eX9_needOf ⟨Nat.le_of_ble_eq_true rfl, Nat.le_of_ble_eq_true rfl⟩) (hLm.h (f := 21) (by decide)) (gC21 _ _ _ _) gcl9 rfl rfl rfl hl.1 (Nat.le_of_ble_eq_true rfl) ⟨Nat.zero_le _, Nat.zero_le _⟩ dX9_gainOf_69 (fun r14 M13 H locs hw hP hS => ?_)
            refine lv_iadd hx hb dX9_gainOf_72 ?_
            refine lv_istore_n (lv' := [(2, .int (x2_4 + r14)), (4, .int (M3 22 5 x3_5.toNatClampNeg)), (0, .ref (ad 21 0)), (1, .int a1), (3, .int x3_5)]) hx hb dX9_gainOf_73 rfl hl (by decide) rfl (fun ls hl => ?_)
            refine lv_iinc (v := (x3_5 + (1 : Int32))) (lv' := [(3, .int (x3_5 + (1 : Int32))), (2, .int (x2_4 + r14)), (4, .int (M3 22 5 x3_5.toNatClampNeg)), (0, .ref (ad 21 0)), (1, .int a1)]) hx hb dX9_gainOf_74 hl (k := 4) rfl rfl (by decide) rfl (fun ls hl => ?_)
            refine lv_goto (tgt := 9) hx hb dX9_gainOf_77 (by decide) ?_
            exact ihn2 _ _ _ _ _ _ hw hP hS (lv_sub hl [3, 4, 1, 0] rfl)
          · have hw := hw.1 c12
            refine lv_aload_n hx hb dX9_gainOf_55 rfl (lv_at hl 1 rfl) ?_
            refine lv_iload hx hb dX9_gainOf_56 (lv_at hl 0 rfl) ?_
            refine g_Vi (As := [.int (M3 22 5 x3_5.toNatClampNeg)]) (rest := [.int x2_4]) S hK hN hP hS (qX9_needOf l D E ad L A hF hLm M8 (M3 22 5 x3_5.toNatClampNeg)  _ hw) (cwV 1 hts gX9_gainOf_X9_needOf rfl rfl rfl eX9_needOf ⟨Nat.le_of_ble_eq_true rfl, Nat.le_of_ble_eq_true rfl⟩) (hLm.h (f := 21) (by decide)) (gC21 _ _ _ _) gcl9 rfl rfl rfl hl.1 (Nat.le_of_ble_eq_true rfl) ⟨Nat.zero_le _, Nat.zero_le _⟩ dX9_gainOf_58 (fun r16 M15 H locs hw hP hS => ?_)
            refine lv_iconst (v := (2 : Int32)) hx hb dX9_gainOf_61 (by decide) ?_
            refine lv_idiv hx hb dX9_gainOf_62 (by decide) ?_
            refine lv_goto (tgt := 72) hx hb dX9_gainOf_63 (by decide) ?_
            refine lv_iadd hx hb dX9_gainOf_72 ?_
            refine lv_istore_n (lv' := [(2, .int (x2_4 + (r16 / (2 : Int32)))), (4, .int (M3 22 5 x3_5.toNatClampNeg)), (0, .ref (ad 21 0)), (1, .int a1), (3, .int x3_5)]) hx hb dX9_gainOf_73 rfl hl (by decide) rfl (fun ls hl => ?_)
            refine lv_iinc (v := (x3_5 + (1 : Int32))) (lv' := [(3, .int (x3_5 + (1 : Int32))), (2, .int (x2_4 + (r16 / (2 : Int32)))), (4, .int (M3 22 5 x3_5.toNatClampNeg)), (0, .ref (ad 21 0)), (1, .int a1)]) hx hb dX9_gainOf_74 hl (k := 4) rfl rfl (by decide) rfl (fun ls hl => ?_)
            refine lv_goto (tgt := 9) hx hb dX9_gainOf_77 (by decide) ?_
            exact ihn2 _ _ _ _ _ _ hw hP hS (lv_sub hl [3, 4, 1, 0] rfl)
        · have hw := hw.2 c10
          refine lv_aload_n hx hb dX9_gainOf_35 rfl (lv_at hl 1 rfl) ?_
          refine g_get (v := .ref (ad 22 0)) hx hb hts hown hK hP (hLm.h (f := 21) (by decide)) (gC21 _ _ _ _) gcl9 iX9_gainOf_X9 0 (by decide) mX9_gainOf_3 rfl rfl dX9_gainOf_36 ?_
          refine lv_iconst (v := (0 : Int32)) hx hb dX9_gainOf_39 (by decide) ?_
          have hb17 := hw.1
          have hw := hw.2
          refine g_iald (n := 1730) hx hb hK hP (hLm.h (f := 22) (by decide)) rfl hb17 dX9_gainOf_40 ?_
          refine lv_goto (tgt := 72) hx hb dX9_gainOf_41 (by decide) ?_
          refine lv_iadd hx hb dX9_gainOf_72 ?_
          refine lv_istore_n (lv' := [(2, .int (x2_4 + (M8 22 0 (0 : Int32).toNatClampNeg))), (4, .int (M3 22 5 x3_5.toNatClampNeg)), (0, .ref (ad 21 0)), (1, .int a1), (3, .int x3_5)]) hx hb dX9_gainOf_73 rfl hl (by decide) rfl (fun ls hl => ?_)
          refine lv_iinc (v := (x3_5 + (1 : Int32))) (lv' := [(3, .int (x3_5 + (1 : Int32))), (2, .int (x2_4 + (M8 22 0 (0 : Int32).toNatClampNeg))), (4, .int (M3 22 5 x3_5.toNatClampNeg)), (0, .ref (ad 21 0)), (1, .int a1)]) hx hb dX9_gainOf_74 hl (k := 4) rfl rfl (by decide) rfl (fun ls hl => ?_)
          refine lv_goto (tgt := 9) hx hb dX9_gainOf_77 (by decide) ?_
          exact ihn2 _ _ _ _ _ _ hw hP hS (lv_sub hl [3, 4, 1, 0] rfl)
  exact hlX9_gainOf_L9 n21 _ _ _ _ _ _ hw hP hS (lv_sub hl [2, 3, 1, 0] rfl)
abbrev rmX9_coversNone : Room := { frames := 0, cells := 0, slots := 0, locals := 0 }
theorem eX9_coversNone : yX9_coversNone.cls = RX9 ∧ yX9_coversNone.cls ≠ "java/lang/invoke/MethodHandle" ∧ yX9_coversNone.cls ≠ "java/lang/invoke/VarHandle" ∧ (parseMethodDescriptor yX9_coversNone.desc).map (fun d => d.parameters.length) = some 0 := by decide +kernel
theorem iX9_coversNone_X9 : ∀ w ∈ wsX90, w ∈ wsX9_coversNone := fun _ h => List.mem_cons_of_mem _ (List.mem_append_right _ (h))
theorem mX9_coversNone_1 : Cond.fieldLink RX9 34 "PracticeSheetsModel" "isCovered" "[I" ∈ wsX9_coversNone := List.mem_of_getElem? (i := 1) rfl
set_option maxHeartbeats 4000000 in
set_option maxRecDepth 100000 in
theorem qX9_coversNone (l : Launch) (D : va_G) (E : Nat → ClassId) (ad : Nat → Nat → Nat) (L : List (Nat × Nat)) (A : Nat → Prop) (hF : gF E ad L A) (hLm : gLm L) (M0 : gW)  (K : gW → Prop) (hw : wX9_coversNone M0 K) : Met l yX9_coversNone wsX9_coversNone rmX9_coversNone (va_Pc [.ref (ad 21 0)] (gPre D E ad L M0)) (gQv D E ad L A K) 0 0 A := by
  refine Met.ofW (cc := cX9_coversNone) (maxL := 2) (ret := none) (by decide) rfl ?_
  intro p e s m args below meth c s₁ B hml hv
  obtain ⟨rfl, hP, hK, hN⟩ := hv
  have hx := B.exec
  have hb := B.bytes
  have hr := B.returns
  have hts := atoms_spec (ws := wsX9_coversNone) B.pre
  have hown : s.vm.findClass RX9 = some m.cls := findClass_of_methodNamed B.named
  have hlocks := B.notSynchronized
  have S : CallFix p m c cX9_coversNone 2 s ([.ref (ad 21 0)] : List Value).toArray wsX9_coversNone RX9 := ⟨hx, hb, hml, hown, hts⟩
  have hS : va_S A s.heap s.heap [] := va_S.rf
  have hl := lv_entry ([.ref (ad 21 0)]) (n := 2) (Nat.le_of_ble_eq_true rfl)
  rw [lg_entry_eq]
  generalize (lg_sl ([.ref (ad 21 0)]) ++ List.replicate (2 - (lg_sl ([.ref (ad 21 0)])).length) Slot.unset).toArray = ls at hl ⊢
  have hl : lv_has ls 2 [(0, .ref (ad 21 0))] := hl
  refine lv_iconst (v := (0 : Int32)) hx hb dX9_coversNone_0 (by decide) ?_
  refine lv_istore_n (lv' := [(1, .int (0 : Int32)), (0, .ref (ad 21 0))]) hx hb dX9_coversNone_1 rfl hl (by decide) rfl (fun ls hl => ?_)
  obtain ⟨n10, hw⟩ := hw
  have hxX9_coversNone_L2_0 : ∀ (M8 : gW) (x1_9 : Int32) (H : Heap) (locs : List Loc) (ls : Array Slot), (K M8) → va_P D vwCl (gL E ad L M8) H → va_S A s.heap H locs → lv_has ls 2 [(0, .ref (ad 21 0)), (1, .int x1_9)] → W p l e (headSpec wsX9_coversNone rmX9_coversNone).room s m (([.ref (ad 21 0)] : List Value).toArray) below meth c H locs 0 0 (MQ below (gQv D E ad L A K) ([.ref (ad 21 0)] : List Value).toArray s 0 0 A) (F0 m 22 ls []) := by
    intro M8 x1_9 H locs ls hw hP hS hl
    exact g_vret hx hb hr hlocks hw hP hS dX9_coversNone_22
  have hlX9_coversNone_L2 : ∀ (n1 : Nat) (M2 : gW) (x1_3 : Int32) (H : Heap) (locs : List Loc) (ls : Array Slot), wX9_coversNone_L2 (fun M8 x1_9 => (K M8)) n1 M2 x1_3 → va_P D vwCl (gL E ad L M2) H → va_S A s.heap H locs → lv_has ls 2 [(0, .ref (ad 21 0)), (1, .int x1_3)] → W p l e (headSpec wsX9_coversNone rmX9_coversNone).room s m (([.ref (ad 21 0)] : List Value).toArray) below meth c H locs 0 0 (MQ below (gQv D E ad L A K) ([.ref (ad 21 0)] : List Value).toArray s 0 0 A) (F0 m 2 ls []) := by
    intro n1
    induction n1 with
    | zero => intro M2 x1_3 H locs ls hw; exact False.elim hw
    | succ n1 ihn1 =>
      intro M2 x1_3 H locs ls hw hP hS hl
      refine lv_iload_n hx hb dX9_coversNone_2 rfl (lv_at hl 1 rfl) ?_
      refine lv_sipush (v := (702 : Int32)) hx hb dX9_coversNone_3 (by decide) ?_
      refine lv_icmp_ge (tgt := 22) hx hb dX9_coversNone_6 (by decide) (fun c4 => ?_) (fun c4 => ?_)
      · have hw := hw.1 c4
        exact hxX9_coversNone_L2_0 _ _ _ _ _ hw hP hS (lv_sub hl [0, 1] rfl)
      · have hw := hw.2 c4
        refine lv_aload_n hx hb dX9_coversNone_9 rfl (lv_at hl 0 rfl) ?_
        refine g_get (v := .ref (ad 22 8)) hx hb hts hown hK hP (hLm.h (f := 21) (by decide)) (gC21 _ _ _ _) gcl9 iX9_coversNone_X9 12 (by decide) mX9_coversNone_1 rfl rfl dX9_coversNone_10 ?_
        refine lv_iload_n hx hb dX9_coversNone_13 rfl (lv_at hl 1 rfl) ?_
        refine lv_iconst (v := (0 : Int32)) hx hb dX9_coversNone_14 (by decide) ?_
        have hb5 := hw.1
        have hw := hw.2
        refine g_iast (n := 702) hx hb hF hK hP hS (hLm.h (f := 22) (by decide)) (fun _ => rfl) hb5 dX9_coversNone_15 (fun M6 e7 H locs hP hS => ?_)
        have hw := hw M6 e7
        refine lv_iinc (v := (x1_3 + (1 : Int32))) (lv' := [(1, .int (x1_3 + (1 : Int32))), (0, .ref (ad 21 0))]) hx hb dX9_coversNone_16 hl (k := 1) rfl rfl (by decide) rfl (fun ls hl => ?_)
        refine lv_goto (tgt := 2) hx hb dX9_coversNone_19 (by decide) ?_
        exact ihn1 _ _ _ _ _ hw hP hS (lv_sub hl [1, 0] rfl)
  exact hlX9_coversNone_L2 n10 _ _ _ _ _ hw hP hS (lv_sub hl [1, 0] rfl)
abbrev rmX9_isOnSheet : Room := { frames := 0, cells := 0, slots := 0, locals := 0 }
theorem eX9_isOnSheet : yX9_isOnSheet.cls = RX9 ∧ yX9_isOnSheet.cls ≠ "java/lang/invoke/MethodHandle" ∧ yX9_isOnSheet.cls ≠ "java/lang/invoke/VarHandle" ∧ (parseMethodDescriptor yX9_isOnSheet.desc).map (fun d => d.parameters.length) = some 1 := by decide +kernel
theorem iX9_isOnSheet_X9 : ∀ w ∈ wsX90, w ∈ wsX9_isOnSheet := fun _ h => List.mem_cons_of_mem _ (List.mem_append_right _ (h))
theorem mX9_isOnSheet_1 : Cond.fieldLink RX9 93 "PracticeSheetsModel" "lines" "I" ∈ wsX9_isOnSheet := List.mem_of_getElem? (i := 1) rfl
theorem mX9_isOnSheet_2 : Cond.fieldLink RX9 28 "PracticeSheetsModel" "lineWord" "[I" ∈ wsX9_isOnSheet := List.mem_of_getElem? (i := 2) rfl
set_option maxHeartbeats 4000000 in
set_option maxRecDepth 100000 in
theorem qX9_isOnSheet (l : Launch) (D : va_G) (E : Nat → ClassId) (ad : Nat → Nat → Nat) (L : List (Nat × Nat)) (A : Nat → Prop) (hF : gF E ad L A) (hLm : gLm L) (M0 : gW) (a1 : Int32)  (K : Int32 → gW → Prop) (hw : wX9_isOnSheet M0 a1 K) : Met l yX9_isOnSheet wsX9_isOnSheet rmX9_isOnSheet (va_Pc [.ref (ad 21 0), .int a1] (gPre D E ad L M0)) (gQi D E ad L A K) 0 0 A := by
  refine Met.ofW (cc := cX9_isOnSheet) (maxL := 4) (ret := (some .boolean)) (by decide) rfl ?_
  intro p e s m args below meth c s₁ B hml hv
  obtain ⟨rfl, hP, hK, hN⟩ := hv
  have hx := B.exec
  have hb := B.bytes
  have hr := B.returns
  have hts := atoms_spec (ws := wsX9_isOnSheet) B.pre
  have hown : s.vm.findClass RX9 = some m.cls := findClass_of_methodNamed B.named
  have hlocks := B.notSynchronized
  have S : CallFix p m c cX9_isOnSheet 4 s ([.ref (ad 21 0), .int a1] : List Value).toArray wsX9_isOnSheet RX9 := ⟨hx, hb, hml, hown, hts⟩
  have hS : va_S A s.heap s.heap [] := va_S.rf
  have hl := lv_entry ([.ref (ad 21 0), .int a1]) (n := 4) (Nat.le_of_ble_eq_true rfl)
  rw [lg_entry_eq]
  generalize (lg_sl ([.ref (ad 21 0), .int a1]) ++ List.replicate (4 - (lg_sl ([.ref (ad 21 0), .int a1])).length) Slot.unset).toArray = ls at hl ⊢
  have hl : lv_has ls 4 [(0, .ref (ad 21 0)), (1, .int a1)] := hl
  refine lv_iconst (v := (0 : Int32)) hx hb dX9_isOnSheet_0 (by decide) ?_
  refine lv_istore_n (lv' := [(2, .int (0 : Int32)), (0, .ref (ad 21 0)), (1, .int a1)]) hx hb dX9_isOnSheet_1 rfl hl (by decide) rfl (fun ls hl => ?_)
  refine lv_iconst (v := (0 : Int32)) hx hb dX9_isOnSheet_2 (by decide) ?_
  refine lv_istore_n (lv' := [(3, .int (0 : Int32)), (2, .int (0 : Int32)), (0, .ref (ad 21 0)), (1, .int a1)]) hx hb dX9_isOnSheet_3 rfl hl (by decide) rfl (fun ls hl => ?_)
  obtain ⟨n13, hw⟩ := hw
  have hxX9_isOnSheet_L4_0 : ∀ (M9 : gW) (x2_10 : Int32) (x3_11 : Int32) (H : Heap) (locs : List Loc) (ls : Array Slot), ((x2_10 = 0 ∨ x2_10 = 1) ∧ (K x2_10 M9)) → va_P D vwCl (gL E ad L M9) H → va_S A s.heap H locs → lv_has ls 4 [(0, .ref (ad 21 0)), (1, .int a1), (2, .int x2_10), (3, .int x3_11)] → W p l e (headSpec wsX9_isOnSheet rmX9_isOnSheet).room s m (([.ref (ad 21 0), .int a1] : List Value).toArray) below meth c H locs 0 0 (MQ below (gQi D E ad L A K) ([.ref (ad 21 0), .int a1] : List Value).toArray s 0 0 A) (F0 m 38 ls []) := by
    intro M9 x2_10 x3_11 H locs ls hw hP hS hl
    refine lv_iload_n hx hb dX9_isOnSheet_38 rfl (lv_at hl 2 rfl) ?_
    have hb12 := hw.1
    have hw := hw.2
    exact g_zret hx hb hr hlocks hb12 hw hP hS dX9_isOnSheet_39
  have hlX9_isOnSheet_L4 : ∀ (n1 : Nat) (M2 : gW) (x2_3 : Int32) (x3_4 : Int32) (H : Heap) (locs : List Loc) (ls : Array Slot), wX9_isOnSheet_L4 a1 (fun M9 x2_10 x3_11 => ((x2_10 = 0 ∨ x2_10 = 1) ∧ (K x2_10 M9))) n1 M2 x2_3 x3_4 → va_P D vwCl (gL E ad L M2) H → va_S A s.heap H locs → lv_has ls 4 [(0, .ref (ad 21 0)), (1, .int a1), (2, .int x2_3), (3, .int x3_4)] → W p l e (headSpec wsX9_isOnSheet rmX9_isOnSheet).room s m (([.ref (ad 21 0), .int a1] : List Value).toArray) below meth c H locs 0 0 (MQ below (gQi D E ad L A K) ([.ref (ad 21 0), .int a1] : List Value).toArray s 0 0 A) (F0 m 4 ls []) := by
    intro n1
    induction n1 with
    | zero => intro M2 x2_3 x3_4 H locs ls hw; exact False.elim hw
    | succ n1 ihn1 =>
      intro M2 x2_3 x3_4 H locs ls hw hP hS hl
      refine lv_iload_n hx hb dX9_isOnSheet_4 rfl (lv_at hl 3 rfl) ?_
      refine lv_aload_n hx hb dX9_isOnSheet_5 rfl (lv_at hl 0 rfl) ?_
      refine g_get (v := .int (M2 21 0 11)) hx hb hts hown hK hP (hLm.h (f := 21) (by decide)) (gC21 _ _ _ _) gcl9 iX9_isOnSheet_X9 11 (by decide) mX9_isOnSheet_1 rfl rfl dX9_isOnSheet_6 ?_
      refine lv_icmp_ge (tgt := 38) hx hb dX9_isOnSheet_9 (by decide) (fun c5 => ?_) (fun c5 => ?_)
      · have hw := hw.1 c5
        exact hxX9_isOnSheet_L4_0 _ _ _ _ _ _ hw hP hS (lv_sub hl [0, 1, 2, 3] rfl)
      · have hw := hw.2 c5
        refine lv_iload_n hx hb dX9_isOnSheet_12 rfl (lv_at hl 2 rfl) ?_
        refine lv_if_ne (tgt := 26) hx hb dX9_isOnSheet_13 (by decide) (fun c6 => ?_) (fun c6 => ?_)
        · have hw := hw.2 c6
          refine lv_iconst (v := (1 : Int32)) hx hb dX9_isOnSheet_26 (by decide) ?_
          refine lv_goto (tgt := 31) hx hb dX9_isOnSheet_27 (by decide) ?_
          refine lv_istore_n (lv' := [(2, .int (1 : Int32)), (0, .ref (ad 21 0)), (1, .int a1), (3, .int x3_4)]) hx hb dX9_isOnSheet_31 rfl hl (by decide) rfl (fun ls hl => ?_)
          refine lv_iinc (v := (x3_4 + (1 : Int32))) (lv' := [(3, .int (x3_4 + (1 : Int32))), (2, .int (1 : Int32)), (0, .ref (ad 21 0)), (1, .int a1)]) hx hb dX9_isOnSheet_32 hl (k := 3) rfl rfl (by decide) rfl (fun ls hl => ?_)
          refine lv_goto (tgt := 4) hx hb dX9_isOnSheet_35 (by decide) ?_
          exact ihn1 _ _ _ _ _ _ hw hP hS (lv_sub hl [2, 3, 1, 0] rfl)
        · have hw := hw.1 c6
          refine lv_aload_n hx hb dX9_isOnSheet_16 rfl (lv_at hl 0 rfl) ?_
          refine g_get (v := .ref (ad 22 6)) hx hb hts hown hK hP (hLm.h (f := 21) (by decide)) (gC21 _ _ _ _) gcl9 iX9_isOnSheet_X9 9 (by decide) mX9_isOnSheet_2 rfl rfl dX9_isOnSheet_17 ?_
          refine lv_iload_n hx hb dX9_isOnSheet_20 rfl (lv_at hl 3 rfl) ?_
          have hb7 := hw.1
          have hw := hw.2
          refine g_iald (n := 10) hx hb hK hP (hLm.h (f := 22) (by decide)) rfl hb7 dX9_isOnSheet_21 ?_
          refine lv_iload_n hx hb dX9_isOnSheet_22 rfl (lv_at hl 1 rfl) ?_
          refine lv_icmp_ne (tgt := 30) hx hb dX9_isOnSheet_23 (by decide) (fun c8 => ?_) (fun c8 => ?_)
          · have hw := hw.2 c8
            refine lv_iconst (v := (0 : Int32)) hx hb dX9_isOnSheet_30 (by decide) ?_
            refine lv_istore_n (lv' := [(2, .int (0 : Int32)), (0, .ref (ad 21 0)), (1, .int a1), (3, .int x3_4)]) hx hb dX9_isOnSheet_31 rfl hl (by decide) rfl (fun ls hl => ?_)
            refine lv_iinc (v := (x3_4 + (1 : Int32))) (lv' := [(3, .int (x3_4 + (1 : Int32))), (2, .int (0 : Int32)), (0, .ref (ad 21 0)), (1, .int a1)]) hx hb dX9_isOnSheet_32 hl (k := 3) rfl rfl (by decide) rfl (fun ls hl => ?_)
            refine lv_goto (tgt := 4) hx hb dX9_isOnSheet_35 (by decide) ?_
            exact ihn1 _ _ _ _ _ _ hw hP hS (lv_sub hl [2, 3, 1, 0] rfl)
          · have hw := hw.1 c8
            refine lv_iconst (v := (1 : Int32)) hx hb dX9_isOnSheet_26 (by decide) ?_
            refine lv_goto (tgt := 31) hx hb dX9_isOnSheet_27 (by decide) ?_
            refine lv_istore_n (lv' := [(2, .int (1 : Int32)), (0, .ref (ad 21 0)), (1, .int a1), (3, .int x3_4)]) hx hb dX9_isOnSheet_31 rfl hl (by decide) rfl (fun ls hl => ?_)
            refine lv_iinc (v := (x3_4 + (1 : Int32))) (lv' := [(3, .int (x3_4 + (1 : Int32))), (2, .int (1 : Int32)), (0, .ref (ad 21 0)), (1, .int a1)]) hx hb dX9_isOnSheet_32 hl (k := 3) rfl rfl (by decide) rfl (fun ls hl => ?_)
            refine lv_goto (tgt := 4) hx hb dX9_isOnSheet_35 (by decide) ?_
            exact ihn1 _ _ _ _ _ _ hw hP hS (lv_sub hl [2, 3, 1, 0] rfl)
  exact hlX9_isOnSheet_L4 n13 _ _ _ _ _ _ hw hP hS (lv_sub hl [2, 3, 1, 0] rfl)
abbrev rmX9_nextWord : Room := { frames := 3, cells := 0, slots := 0, locals := 69 }
theorem eX9_nextWord : yX9_nextWord.cls = RX9 ∧ yX9_nextWord.cls ≠ "java/lang/invoke/MethodHandle" ∧ yX9_nextWord.cls ≠ "java/lang/invoke/VarHandle" ∧ (parseMethodDescriptor yX9_nextWord.desc).map (fun d => d.parameters.length) = some 0 := by decide +kernel
theorem iX9_nextWord_X9 : ∀ w ∈ wsX90, w ∈ wsX9_nextWord := fun _ h => List.mem_cons_of_mem _ (List.mem_append_right _ (h))
theorem mX9_nextWord_1 : Cond.fieldLink RX9 7 "PracticeSheetsModel" "all" "[I" ∈ wsX9_nextWord := List.mem_of_getElem? (i := 1) rfl
set_option maxHeartbeats 4000000 in
set_option maxRecDepth 100000 in
theorem qX9_nextWord (l : Launch) (D : va_G) (E : Nat → ClassId) (ad : Nat → Nat → Nat) (L : List (Nat × Nat)) (A : Nat → Prop) (hF : gF E ad L A) (hLm : gLm L) (M0 : gW)  (K : Int32 → gW → Prop) (hw : wX9_nextWord M0 K) : Met l yX9_nextWord wsX9_nextWord rmX9_nextWord (va_Pc [.ref (ad 21 0)] (gPre D E ad L M0)) (gQi D E ad L A K) 0 0 A := by
  refine Met.ofW (cc := cX9_nextWord) (maxL := 6) (ret := (some .int)) (by decide) rfl ?_
  intro p e s m args below meth c s₁ B hml hv
  obtain ⟨rfl, hP, hK, hN⟩ := hv
  have hx := B.exec
  have hb := B.bytes
  have hr := B.returns
  have hts := atoms_spec (ws := wsX9_nextWord) B.pre
  have hown : s.vm.findClass RX9 = some m.cls := findClass_of_methodNamed B.named
  have hlocks := B.notSynchronized
  have S : CallFix p m c cX9_nextWord 6 s ([.ref (ad 21 0)] : List Value).toArray wsX9_nextWord RX9 := ⟨hx, hb, hml, hown, hts⟩
  have hS : va_S A s.heap s.heap [] := va_S.rf
  have hl := lv_entry ([.ref (ad 21 0)]) (n := 6) (Nat.le_of_ble_eq_true rfl)
  rw [lg_entry_eq]
  generalize (lg_sl ([.ref (ad 21 0)]) ++ List.replicate (6 - (lg_sl ([.ref (ad 21 0)])).length) Slot.unset).toArray = ls at hl ⊢
  have hl : lv_has ls 6 [(0, .ref (ad 21 0))] := hl
  refine lv_bipush (v := (-5 : Int32)) hx hb dX9_nextWord_0 (by decide) ?_
  refine lv_istore_n (lv' := [(1, .int (-5 : Int32)), (0, .ref (ad 21 0))]) hx hb dX9_nextWord_2 rfl hl (by decide) rfl (fun ls hl => ?_)
  refine lv_iconst (v := (0 : Int32)) hx hb dX9_nextWord_3 (by decide) ?_
  refine lv_istore_n (lv' := [(2, .int (0 : Int32)), (1, .int (-5 : Int32)), (0, .ref (ad 21 0))]) hx hb dX9_nextWord_4 rfl hl (by decide) rfl (fun ls hl => ?_)
  refine lv_iconst (v := (0 : Int32)) hx hb dX9_nextWord_5 (by decide) ?_
  refine lv_istore_n (lv' := [(3, .int (0 : Int32)), (2, .int (0 : Int32)), (1, .int (-5 : Int32)), (0, .ref (ad 21 0))]) hx hb dX9_nextWord_6 rfl hl (by decide) rfl (fun ls hl => ?_)
  obtain ⟨n33, hw⟩ := hw
  have hxX9_nextWord_L7_0 : ∀ (M29 : gW) (x1_30 : Int32) (x2_31 : Int32) (x3_32 : Int32) (H : Heap) (locs : List Loc) (ls : Array Slot), (K x1_30 M29) → va_P D vwCl (gL E ad L M29) H → va_S A s.heap H locs → lv_has ls 6 [(0, .ref (ad 21 0)), (1, .int x1_30), (2, .int x2_31), (3, .int x3_32)] → W p l e (headSpec wsX9_nextWord rmX9_nextWord).room s m (([.ref (ad 21 0)] : List Value).toArray) below meth c H locs 0 0 (MQ below (gQi D E ad L A K) ([.ref (ad 21 0)] : List Value).toArray s 0 0 A) (F0 m 103 ls []) := by
    intro M29 x1_30 x2_31 x3_32 H locs ls hw hP hS hl
    refine lv_iload_n hx hb dX9_nextWord_103 rfl (lv_at hl 1 rfl) ?_
    exact g_iret hx hb hr hlocks hw hP hS dX9_nextWord_104
  have hlX9_nextWord_L7 : ∀ (n1 : Nat) (M2 : gW) (x1_3 : Int32) (x2_4 : Int32) (x3_5 : Int32) (H : Heap) (locs : List Loc) (ls : Array Slot), wX9_nextWord_L7 (fun M29 x1_30 x2_31 x3_32 => (K x1_30 M29)) n1 M2 x1_3 x2_4 x3_5 → va_P D vwCl (gL E ad L M2) H → va_S A s.heap H locs → lv_has ls 6 [(0, .ref (ad 21 0)), (1, .int x1_3), (2, .int x2_4), (3, .int x3_5)] → W p l e (headSpec wsX9_nextWord rmX9_nextWord).room s m (([.ref (ad 21 0)] : List Value).toArray) below meth c H locs 0 0 (MQ below (gQi D E ad L A K) ([.ref (ad 21 0)] : List Value).toArray s 0 0 A) (F0 m 7 ls []) := by
    intro n1
    induction n1 with
    | zero => intro M2 x1_3 x2_4 x3_5 H locs ls hw; exact False.elim hw
    | succ n1 ihn1 =>
      intro M2 x1_3 x2_4 x3_5 H locs ls hw hP hS hl
      refine lv_iload_n hx hb dX9_nextWord_7 rfl (lv_at hl 3 rfl) ?_
      refine lv_aload_n hx hb dX9_nextWord_8 rfl (lv_at hl 0 rfl) ?_
      refine g_get (v := .ref (ad 22 0)) hx hb hts hown hK hP (hLm.h (f := 21) (by decide)) (gC21 _ _ _ _) gcl9 iX9_nextWord_X9 0 (by decide) mX9_nextWord_1 rfl rfl dX9_nextWord_9 ?_
      refine lv_iconst (v := (5 : Int32)) hx hb dX9_nextWord_12 (by decide) ?_
      have hb6 := hw.1
      have hw := hw.2
      refine g_iald (n := 1730) hx hb hK hP (hLm.h (f := 22) (by decide)) rfl hb6 dX9_nextWord_13 ?_
      refine lv_icmp_ge (tgt := 103) hx hb dX9_nextWord_14 (by decide) (fun c7 => ?_) (fun c7 => ?_)
      · have hw := hw.1 c7
        exact hxX9_nextWord_L7_0 _ _ _ _ _ _ _ hw hP hS (lv_sub hl [0, 1, 2, 3] rfl)
      · have hw := hw.2 c7
        refine lv_aload_n hx hb dX9_nextWord_17 rfl (lv_at hl 0 rfl) ?_
        refine lv_iload_n hx hb dX9_nextWord_18 rfl (lv_at hl 3 rfl) ?_
        refine g_Vi (As := [.int x3_5]) (rest := []) S hK hN hP hS (qX9_isOnSheet l D E ad L A hF hLm M2 x3_5  _ hw) (cwV 1 hts gX9_nextWord_X9_isOnSheet rfl rfl rfl eX9_isOnSheet ⟨Nat.le_of_ble_eq_true rfl, Nat.le_of_ble_eq_true rfl⟩) (hLm.h (f := 21) (by decide)) (gC21 _ _ _ _) gcl9 rfl rfl rfl hl.1 (Nat.le_of_ble_eq_true rfl) ⟨Nat.zero_le _, Nat.zero_le _⟩ dX9_nextWord_19 (fun r9 M8 H locs hw hP hS => ?_)
        refine lv_if_eq (tgt := 29) hx hb dX9_nextWord_22 (by decide) (fun c10 => ?_) (fun c10 => ?_)
        · have hw := hw.1 c10
          refine lv_aload_n hx hb dX9_nextWord_29 rfl (lv_at hl 0 rfl) ?_
          refine lv_iload_n hx hb dX9_nextWord_30 rfl (lv_at hl 3 rfl) ?_
          refine g_Vi (As := [.int x3_5]) (rest := []) S hK hN hP hS (qX9_gainOf l D E ad L A hF hLm M8 x3_5  _ hw) (cwV 1 hts gX9_nextWord_X9_gainOf rfl rfl rfl eX9_gainOf ⟨Nat.le_of_ble_eq_true rfl, Nat.le_of_ble_eq_true rfl⟩) (hLm.h (f := 21) (by decide)) (gC21 _ _ _ _) gcl9 rfl rfl rfl hl.1 (Nat.le_of_ble_eq_true rfl) ⟨Nat.zero_le _, Nat.zero_le _⟩ dX9_nextWord_31 (fun r12 M11 H locs hw hP hS => ?_)
          refine lv_istore (lv' := [(4, .int r12), (0, .ref (ad 21 0)), (1, .int x1_3), (2, .int x2_4), (3, .int x3_5)]) hx hb dX9_nextWord_34 hl (by decide) rfl (fun ls hl => ?_)
          refine lv_iload hx hb dX9_nextWord_36 (lv_at hl 0 rfl) ?_
          refine lv_iload_n hx hb dX9_nextWord_38 rfl (lv_at hl 3 rfl) ?_
          refine lv_icmp_gt (tgt := 67) hx hb dX9_nextWord_39 (by decide) (fun c13 => ?_) (fun c13 => ?_)
          · have hw := hw.1 c13
            refine lv_iconst (v := (1 : Int32)) hx hb dX9_nextWord_67 (by decide) ?_
            refine lv_goto (tgt := 72) hx hb dX9_nextWord_68 (by decide) ?_
            refine lv_istore (lv' := [(5, .int (1 : Int32)), (4, .int r12), (0, .ref (ad 21 0)), (1, .int x1_3), (2, .int x2_4), (3, .int x3_5)]) hx hb dX9_nextWord_72 hl (by decide) rfl (fun ls hl => ?_)
            refine lv_iload hx hb dX9_nextWord_74 (lv_at hl 0 rfl) ?_
            refine lv_if_eq (tgt := 83) hx hb dX9_nextWord_76 (by decide) (fun c => absurd c (by decide)) (fun _ => ?_)
            refine lv_iload_n hx hb dX9_nextWord_79 rfl (lv_at hl 5 rfl) ?_
            refine lv_goto (tgt := 84) hx hb dX9_nextWord_80 (by decide) ?_
            refine lv_istore_n (lv' := [(1, .int x3_5), (5, .int (1 : Int32)), (4, .int r12), (0, .ref (ad 21 0)), (2, .int x2_4), (3, .int x3_5)]) hx hb dX9_nextWord_84 rfl hl (by decide) rfl (fun ls hl => ?_)
            refine lv_iload hx hb dX9_nextWord_85 (lv_at hl 1 rfl) ?_
            refine lv_if_eq (tgt := 95) hx hb dX9_nextWord_87 (by decide) (fun c => absurd c (by decide)) (fun _ => ?_)
            refine lv_iload hx hb dX9_nextWord_90 (lv_at hl 2 rfl) ?_
            refine lv_goto (tgt := 96) hx hb dX9_nextWord_92 (by decide) ?_
            refine lv_istore_n (lv' := [(2, .int r12), (1, .int x3_5), (5, .int (1 : Int32)), (4, .int r12), (0, .ref (ad 21 0)), (3, .int x3_5)]) hx hb dX9_nextWord_96 rfl hl (by decide) rfl (fun ls hl => ?_)
            refine lv_iinc (v := (x3_5 + (1 : Int32))) (lv' := [(3, .int (x3_5 + (1 : Int32))), (2, .int r12), (1, .int x3_5), (5, .int (1 : Int32)), (4, .int r12), (0, .ref (ad 21 0))]) hx hb dX9_nextWord_97 hl (k := 5) rfl rfl (by decide) rfl (fun ls hl => ?_)
            refine lv_goto (tgt := 7) hx hb dX9_nextWord_100 (by decide) ?_
            exact ihn1 _ _ _ _ _ _ _ hw hP hS (lv_sub hl [5, 2, 1, 0] rfl)
          · have hw := hw.2 c13
            refine lv_iload_n hx hb dX9_nextWord_42 rfl (lv_at hl 2 rfl) ?_
            refine lv_bipush (v := (-5 : Int32)) hx hb dX9_nextWord_43 (by decide) ?_
            refine lv_icmp_eq (tgt := 71) hx hb dX9_nextWord_45 (by decide) (fun c14 => ?_) (fun c14 => ?_)
            · have hw := hw.1 c14
              refine lv_iconst (v := (0 : Int32)) hx hb dX9_nextWord_71 (by decide) ?_
              refine lv_istore (lv' := [(5, .int (0 : Int32)), (4, .int r12), (0, .ref (ad 21 0)), (1, .int x1_3), (2, .int x2_4), (3, .int x3_5)]) hx hb dX9_nextWord_72 hl (by decide) rfl (fun ls hl => ?_)
              refine lv_iload hx hb dX9_nextWord_74 (lv_at hl 0 rfl) ?_
              refine lv_if_eq (tgt := 83) hx hb dX9_nextWord_76 (by decide) (fun _ => ?_) (fun c => absurd (by decide) c)
              refine lv_iload_n hx hb dX9_nextWord_83 rfl (lv_at hl 3 rfl) ?_
              refine lv_istore_n (lv' := [(1, .int x1_3), (5, .int (0 : Int32)), (4, .int r12), (0, .ref (ad 21 0)), (2, .int x2_4), (3, .int x3_5)]) hx hb dX9_nextWord_84 rfl hl (by decide) rfl (fun ls hl => ?_)
              refine lv_iload hx hb dX9_nextWord_85 (lv_at hl 1 rfl) ?_
              refine lv_if_eq (tgt := 95) hx hb dX9_nextWord_87 (by decide) (fun _ => ?_) (fun c => absurd (by decide) c)
              refine lv_iload_n hx hb dX9_nextWord_95 rfl (lv_at hl 4 rfl) ?_
              refine lv_istore_n (lv' := [(2, .int x2_4), (1, .int x1_3), (5, .int (0 : Int32)), (4, .int r12), (0, .ref (ad 21 0)), (3, .int x3_5)]) hx hb dX9_nextWord_96 rfl hl (by decide) rfl (fun ls hl => ?_)
              refine lv_iinc (v := (x3_5 + (1 : Int32))) (lv' := [(3, .int (x3_5 + (1 : Int32))), (2, .int x2_4), (1, .int x1_3), (5, .int (0 : Int32)), (4, .int r12), (0, .ref (ad 21 0))]) hx hb dX9_nextWord_97 hl (k := 5) rfl rfl (by decide) rfl (fun ls hl => ?_)
              refine lv_goto (tgt := 7) hx hb dX9_nextWord_100 (by decide) ?_
              exact ihn1 _ _ _ _ _ _ _ hw hP hS (lv_sub hl [5, 2, 1, 0] rfl)
            · have hw := hw.2 c14
              refine lv_iload hx hb dX9_nextWord_48 (lv_at hl 0 rfl) ?_
              refine lv_iload_n hx hb dX9_nextWord_50 rfl (lv_at hl 3 rfl) ?_
              refine lv_icmp_ne (tgt := 71) hx hb dX9_nextWord_51 (by decide) (fun c15 => ?_) (fun c15 => ?_)
              · have hw := hw.2 c15
                refine lv_iconst (v := (0 : Int32)) hx hb dX9_nextWord_71 (by decide) ?_
                refine lv_istore (lv' := [(5, .int (0 : Int32)), (4, .int r12), (0, .ref (ad 21 0)), (1, .int x1_3), (2, .int x2_4), (3, .int x3_5)]) hx hb dX9_nextWord_72 hl (by decide) rfl (fun ls hl => ?_)
                refine lv_iload hx hb dX9_nextWord_74 (lv_at hl 0 rfl) ?_
                refine lv_if_eq (tgt := 83) hx hb dX9_nextWord_76 (by decide) (fun _ => ?_) (fun c => absurd (by decide) c)
                refine lv_iload_n hx hb dX9_nextWord_83 rfl (lv_at hl 3 rfl) ?_
                refine lv_istore_n (lv' := [(1, .int x1_3), (5, .int (0 : Int32)), (4, .int r12), (0, .ref (ad 21 0)), (2, .int x2_4), (3, .int x3_5)]) hx hb dX9_nextWord_84 rfl hl (by decide) rfl (fun ls hl => ?_)
                refine lv_iload hx hb dX9_nextWord_85 (lv_at hl 1 rfl) ?_
                refine lv_if_eq (tgt := 95) hx hb dX9_nextWord_87 (by decide) (fun _ => ?_) (fun c => absurd (by decide) c)
                refine lv_iload_n hx hb dX9_nextWord_95 rfl (lv_at hl 4 rfl) ?_
                refine lv_istore_n (lv' := [(2, .int x2_4), (1, .int x1_3), (5, .int (0 : Int32)), (4, .int r12), (0, .ref (ad 21 0)), (3, .int x3_5)]) hx hb dX9_nextWord_96 rfl hl (by decide) rfl (fun ls hl => ?_)
                refine lv_iinc (v := (x3_5 + (1 : Int32))) (lv' := [(3, .int (x3_5 + (1 : Int32))), (2, .int x2_4), (1, .int x1_3), (5, .int (0 : Int32)), (4, .int r12), (0, .ref (ad 21 0))]) hx hb dX9_nextWord_97 hl (k := 5) rfl rfl (by decide) rfl (fun ls hl => ?_)
                refine lv_goto (tgt := 7) hx hb dX9_nextWord_100 (by decide) ?_
                exact ihn1 _ _ _ _ _ _ _ hw hP hS (lv_sub hl [5, 2, 1, 0] rfl)
              · have hw := hw.1 c15
                refine lv_aload_n hx hb dX9_nextWord_54 rfl (lv_at hl 1 rfl) ?_
                refine lv_iload_n hx hb dX9_nextWord_55 rfl (lv_at hl 4 rfl) ?_
                refine g_Vi (As := [.int x3_5]) (rest := []) S hK hN hP hS (qX9_sizeOf l D E ad L A hF hLm M11 x3_5  _ hw) (cwV 1 hts gX9_nextWord_X9_sizeOf rfl rfl rfl eX9_sizeOf ⟨Nat.le_of_ble_eq_true rfl, Nat.le_of_ble_eq_true rfl⟩) (hLm.h (f := 21) (by decide)) (gC21 _ _ _ _) gcl9 rfl rfl rfl hl.1 (Nat.le_of_ble_eq_true rfl) ⟨Nat.zero_le _, Nat.zero_le _⟩ dX9_nextWord_56 (fun r17 M16 H locs hw hP hS => ?_)
                refine lv_aload_n hx hb dX9_nextWord_59 rfl (lv_at hl 1 rfl) ?_
                refine lv_iload_n hx hb dX9_nextWord_60 rfl (lv_at hl 2 rfl) ?_
                refine g_Vi (As := [.int x1_3]) (rest := [.int r17]) S hK hN hP hS (qX9_sizeOf l D E ad L A hF hLm M16 x1_3  _ hw) (cwV 1 hts gX9_nextWord_X9_sizeOf rfl rfl rfl eX9_sizeOf ⟨Nat.le_of_ble_eq_true rfl, Nat.le_of_ble_eq_true rfl⟩) (hLm.h (f := 21) (by decide)) (gC21 _ _ _ _) gcl9 rfl rfl rfl hl.1 (Nat.le_of_ble_eq_true rfl) ⟨Nat.zero_le _, Nat.zero_le _⟩ dX9_nextWord_61 (fun r19 M18 H locs hw hP hS => ?_)
                refine lv_icmp_ge (tgt := 71) hx hb dX9_nextWord_64 (by decide) (fun c20 => ?_) (fun c20 => ?_)
                · have hw := hw.1 c20
                  refine lv_iconst (v := (0 : Int32)) hx hb dX9_nextWord_71 (by decide) ?_
                  refine lv_istore (lv' := [(5, .int (0 : Int32)), (4, .int r12), (0, .ref (ad 21 0)), (1, .int x1_3), (2, .int x2_4), (3, .int x3_5)]) hx hb dX9_nextWord_72 hl (by decide) rfl (fun ls hl => ?_)
                  refine lv_iload hx hb dX9_nextWord_74 (lv_at hl 0 rfl) ?_
                  refine lv_if_eq (tgt := 83) hx hb dX9_nextWord_76 (by decide) (fun _ => ?_) (fun c => absurd (by decide) c)
                  refine lv_iload_n hx hb dX9_nextWord_83 rfl (lv_at hl 3 rfl) ?_
                  refine lv_istore_n (lv' := [(1, .int x1_3), (5, .int (0 : Int32)), (4, .int r12), (0, .ref (ad 21 0)), (2, .int x2_4), (3, .int x3_5)]) hx hb dX9_nextWord_84 rfl hl (by decide) rfl (fun ls hl => ?_)
                  refine lv_iload hx hb dX9_nextWord_85 (lv_at hl 1 rfl) ?_
                  refine lv_if_eq (tgt := 95) hx hb dX9_nextWord_87 (by decide) (fun _ => ?_) (fun c => absurd (by decide) c)
                  refine lv_iload_n hx hb dX9_nextWord_95 rfl (lv_at hl 4 rfl) ?_
                  refine lv_istore_n (lv' := [(2, .int x2_4), (1, .int x1_3), (5, .int (0 : Int32)), (4, .int r12), (0, .ref (ad 21 0)), (3, .int x3_5)]) hx hb dX9_nextWord_96 rfl hl (by decide) rfl (fun ls hl => ?_)
                  refine lv_iinc (v := (x3_5 + (1 : Int32))) (lv' := [(3, .int (x3_5 + (1 : Int32))), (2, .int x2_4), (1, .int x1_3), (5, .int (0 : Int32)), (4, .int r12), (0, .ref (ad 21 0))]) hx hb dX9_nextWord_97 hl (k := 5) rfl rfl (by decide) rfl (fun ls hl => ?_)
                  refine lv_goto (tgt := 7) hx hb dX9_nextWord_100 (by decide) ?_
                  exact ihn1 _ _ _ _ _ _ _ hw hP hS (lv_sub hl [5, 2, 1, 0] rfl)
                · have hw := hw.2 c20
                  refine lv_iconst (v := (1 : Int32)) hx hb dX9_nextWord_67 (by decide) ?_
                  refine lv_goto (tgt := 72) hx hb dX9_nextWord_68 (by decide) ?_
                  refine lv_istore (lv' := [(5, .int (1 : Int32)), (4, .int r12), (0, .ref (ad 21 0)), (1, .int x1_3), (2, .int x2_4), (3, .int x3_5)]) hx hb dX9_nextWord_72 hl (by decide) rfl (fun ls hl => ?_)
                  refine lv_iload hx hb dX9_nextWord_74 (lv_at hl 0 rfl) ?_
                  refine lv_if_eq (tgt := 83) hx hb dX9_nextWord_76 (by decide) (fun c => absurd c (by decide)) (fun _ => ?_)
                  refine lv_iload_n hx hb dX9_nextWord_79 rfl (lv_at hl 5 rfl) ?_
                  refine lv_goto (tgt := 84) hx hb dX9_nextWord_80 (by decide) ?_
                  refine lv_istore_n (lv' := [(1, .int x3_5), (5, .int (1 : Int32)), (4, .int r12), (0, .ref (ad 21 0)), (2, .int x2_4), (3, .int x3_5)]) hx hb dX9_nextWord_84 rfl hl (by decide) rfl (fun ls hl => ?_)
                  refine lv_iload hx hb dX9_nextWord_85 (lv_at hl 1 rfl) ?_
                  refine lv_if_eq (tgt := 95) hx hb dX9_nextWord_87 (by decide) (fun c => absurd c (by decide)) (fun _ => ?_)
                  refine lv_iload hx hb dX9_nextWord_90 (lv_at hl 2 rfl) ?_
                  refine lv_goto (tgt := 96) hx hb dX9_nextWord_92 (by decide) ?_
                  refine lv_istore_n (lv' := [(2, .int r12), (1, .int x3_5), (5, .int (1 : Int32)), (4, .int r12), (0, .ref (ad 21 0)), (3, .int x3_5)]) hx hb dX9_nextWord_96 rfl hl (by decide) rfl (fun ls hl => ?_)
                  refine lv_iinc (v := (x3_5 + (1 : Int32))) (lv' := [(3, .int (x3_5 + (1 : Int32))), (2, .int r12), (1, .int x3_5), (5, .int (1 : Int32)), (4, .int r12), (0, .ref (ad 21 0))]) hx hb dX9_nextWord_97 hl (k := 5) rfl rfl (by decide) rfl (fun ls hl => ?_)
                  refine lv_goto (tgt := 7) hx hb dX9_nextWord_100 (by decide) ?_
                  exact ihn1 _ _ _ _ _ _ _ hw hP hS (lv_sub hl [5, 2, 1, 0] rfl)
        · have hw := hw.2 c10
          refine lv_iconst (v := (0 : Int32)) hx hb dX9_nextWord_25 (by decide) ?_
          refine lv_goto (tgt := 34) hx hb dX9_nextWord_26 (by decide) ?_
          refine lv_istore (lv' := [(4, .int (0 : Int32)), (0, .ref (ad 21 0)), (1, .int x1_3), (2, .int x2_4), (3, .int x3_5)]) hx hb dX9_nextWord_34 hl (by decide) rfl (fun ls hl => ?_)
          refine lv_iload hx hb dX9_nextWord_36 (lv_at hl 0 rfl) ?_
          refine lv_iload_n hx hb dX9_nextWord_38 rfl (lv_at hl 3 rfl) ?_
          refine lv_icmp_gt (tgt := 67) hx hb dX9_nextWord_39 (by decide) (fun c21 => ?_) (fun c21 => ?_)
          · have hw := hw.1 c21
            refine lv_iconst (v := (1 : Int32)) hx hb dX9_nextWord_67 (by decide) ?_
            refine lv_goto (tgt := 72) hx hb dX9_nextWord_68 (by decide) ?_
            refine lv_istore (lv' := [(5, .int (1 : Int32)), (4, .int (0 : Int32)), (0, .ref (ad 21 0)), (1, .int x1_3), (2, .int x2_4), (3, .int x3_5)]) hx hb dX9_nextWord_72 hl (by decide) rfl (fun ls hl => ?_)
            refine lv_iload hx hb dX9_nextWord_74 (lv_at hl 0 rfl) ?_
            refine lv_if_eq (tgt := 83) hx hb dX9_nextWord_76 (by decide) (fun c => absurd c (by decide)) (fun _ => ?_)
            refine lv_iload_n hx hb dX9_nextWord_79 rfl (lv_at hl 5 rfl) ?_
            refine lv_goto (tgt := 84) hx hb dX9_nextWord_80 (by decide) ?_
            refine lv_istore_n (lv' := [(1, .int x3_5), (5, .int (1 : Int32)), (4, .int (0 : Int32)), (0, .ref (ad 21 0)), (2, .int x2_4), (3, .int x3_5)]) hx hb dX9_nextWord_84 rfl hl (by decide) rfl (fun ls hl => ?_)
            refine lv_iload hx hb dX9_nextWord_85 (lv_at hl 1 rfl) ?_
            refine lv_if_eq (tgt := 95) hx hb dX9_nextWord_87 (by decide) (fun c => absurd c (by decide)) (fun _ => ?_)
            refine lv_iload hx hb dX9_nextWord_90 (lv_at hl 2 rfl) ?_
            refine lv_goto (tgt := 96) hx hb dX9_nextWord_92 (by decide) ?_
            refine lv_istore_n (lv' := [(2, .int (0 : Int32)), (1, .int x3_5), (5, .int (1 : Int32)), (4, .int (0 : Int32)), (0, .ref (ad 21 0)), (3, .int x3_5)]) hx hb dX9_nextWord_96 rfl hl (by decide) rfl (fun ls hl => ?_)
            refine lv_iinc (v := (x3_5 + (1 : Int32))) (lv' := [(3, .int (x3_5 + (1 : Int32))), (2, .int (0 : Int32)), (1, .int x3_5), (5, .int (1 : Int32)), (4, .int (0 : Int32)), (0, .ref (ad 21 0))]) hx hb dX9_nextWord_97 hl (k := 5) rfl rfl (by decide) rfl (fun ls hl => ?_)
            refine lv_goto (tgt := 7) hx hb dX9_nextWord_100 (by decide) ?_
            exact ihn1 _ _ _ _ _ _ _ hw hP hS (lv_sub hl [5, 2, 1, 0] rfl)
          · have hw := hw.2 c21
            refine lv_iload_n hx hb dX9_nextWord_42 rfl (lv_at hl 2 rfl) ?_
            refine lv_bipush (v := (-5 : Int32)) hx hb dX9_nextWord_43 (by decide) ?_
            refine lv_icmp_eq (tgt := 71) hx hb dX9_nextWord_45 (by decide) (fun c22 => ?_) (fun c22 => ?_)
            · have hw := hw.1 c22
              refine lv_iconst (v := (0 : Int32)) hx hb dX9_nextWord_71 (by decide) ?_
              refine lv_istore (lv' := [(5, .int (0 : Int32)), (4, .int (0 : Int32)), (0, .ref (ad 21 0)), (1, .int x1_3), (2, .int x2_4), (3, .int x3_5)]) hx hb dX9_nextWord_72 hl (by decide) rfl (fun ls hl => ?_)
              refine lv_iload hx hb dX9_nextWord_74 (lv_at hl 0 rfl) ?_
              refine lv_if_eq (tgt := 83) hx hb dX9_nextWord_76 (by decide) (fun _ => ?_) (fun c => absurd (by decide) c)
              refine lv_iload_n hx hb dX9_nextWord_83 rfl (lv_at hl 3 rfl) ?_
              refine lv_istore_n (lv' := [(1, .int x1_3), (5, .int (0 : Int32)), (4, .int (0 : Int32)), (0, .ref (ad 21 0)), (2, .int x2_4), (3, .int x3_5)]) hx hb dX9_nextWord_84 rfl hl (by decide) rfl (fun ls hl => ?_)
              refine lv_iload hx hb dX9_nextWord_85 (lv_at hl 1 rfl) ?_
              refine lv_if_eq (tgt := 95) hx hb dX9_nextWord_87 (by decide) (fun _ => ?_) (fun c => absurd (by decide) c)
              refine lv_iload_n hx hb dX9_nextWord_95 rfl (lv_at hl 4 rfl) ?_
              refine lv_istore_n (lv' := [(2, .int x2_4), (1, .int x1_3), (5, .int (0 : Int32)), (4, .int (0 : Int32)), (0, .ref (ad 21 0)), (3, .int x3_5)]) hx hb dX9_nextWord_96 rfl hl (by decide) rfl (fun ls hl => ?_)
              refine lv_iinc (v := (x3_5 + (1 : Int32))) (lv' := [(3, .int (x3_5 + (1 : Int32))), (2, .int x2_4), (1, .int x1_3), (5, .int (0 : Int32)), (4, .int (0 : Int32)), (0, .ref (ad 21 0))]) hx hb dX9_nextWord_97 hl (k := 5) rfl rfl (by decide) rfl (fun ls hl => ?_)
              refine lv_goto (tgt := 7) hx hb dX9_nextWord_100 (by decide) ?_
              exact ihn1 _ _ _ _ _ _ _ hw hP hS (lv_sub hl [5, 2, 1, 0] rfl)
            · have hw := hw.2 c22
              refine lv_iload hx hb dX9_nextWord_48 (lv_at hl 0 rfl) ?_
              refine lv_iload_n hx hb dX9_nextWord_50 rfl (lv_at hl 3 rfl) ?_
              refine lv_icmp_ne (tgt := 71) hx hb dX9_nextWord_51 (by decide) (fun c23 => ?_) (fun c23 => ?_)
              · have hw := hw.2 c23
                refine lv_iconst (v := (0 : Int32)) hx hb dX9_nextWord_71 (by decide) ?_
                refine lv_istore (lv' := [(5, .int (0 : Int32)), (4, .int (0 : Int32)), (0, .ref (ad 21 0)), (1, .int x1_3), (2, .int x2_4), (3, .int x3_5)]) hx hb dX9_nextWord_72 hl (by decide) rfl (fun ls hl => ?_)
                refine lv_iload hx hb dX9_nextWord_74 (lv_at hl 0 rfl) ?_
                refine lv_if_eq (tgt := 83) hx hb dX9_nextWord_76 (by decide) (fun _ => ?_) (fun c => absurd (by decide) c)
                refine lv_iload_n hx hb dX9_nextWord_83 rfl (lv_at hl 3 rfl) ?_
                refine lv_istore_n (lv' := [(1, .int x1_3), (5, .int (0 : Int32)), (4, .int (0 : Int32)), (0, .ref (ad 21 0)), (2, .int x2_4), (3, .int x3_5)]) hx hb dX9_nextWord_84 rfl hl (by decide) rfl (fun ls hl => ?_)
                refine lv_iload hx hb dX9_nextWord_85 (lv_at hl 1 rfl) ?_
                refine lv_if_eq (tgt := 95) hx hb dX9_nextWord_87 (by decide) (fun _ => ?_) (fun c => absurd (by decide) c)
                refine lv_iload_n hx hb dX9_nextWord_95 rfl (lv_at hl 4 rfl) ?_
                refine lv_istore_n (lv' := [(2, .int x2_4), (1, .int x1_3), (5, .int (0 : Int32)), (4, .int (0 : Int32)), (0, .ref (ad 21 0)), (3, .int x3_5)]) hx hb dX9_nextWord_96 rfl hl (by decide) rfl (fun ls hl => ?_)
                refine lv_iinc (v := (x3_5 + (1 : Int32))) (lv' := [(3, .int (x3_5 + (1 : Int32))), (2, .int x2_4), (1, .int x1_3), (5, .int (0 : Int32)), (4, .int (0 : Int32)), (0, .ref (ad 21 0))]) hx hb dX9_nextWord_97 hl (k := 5) rfl rfl (by decide) rfl (fun ls hl => ?_)
                refine lv_goto (tgt := 7) hx hb dX9_nextWord_100 (by decide) ?_
                exact ihn1 _ _ _ _ _ _ _ hw hP hS (lv_sub hl [5, 2, 1, 0] rfl)
              · have hw := hw.1 c23
                refine lv_aload_n hx hb dX9_nextWord_54 rfl (lv_at hl 1 rfl) ?_
                refine lv_iload_n hx hb dX9_nextWord_55 rfl (lv_at hl 4 rfl) ?_
                refine g_Vi (As := [.int x3_5]) (rest := []) S hK hN hP hS (qX9_sizeOf l D E ad L A hF hLm M8 x3_5  _ hw) (cwV 1 hts gX9_nextWord_X9_sizeOf rfl rfl rfl eX9_sizeOf ⟨Nat.le_of_ble_eq_true rfl, Nat.le_of_ble_eq_true rfl⟩) (hLm.h (f := 21) (by decide)) (gC21 _ _ _ _) gcl9 rfl rfl rfl hl.1 (Nat.le_of_ble_eq_true rfl) ⟨Nat.zero_le _, Nat.zero_le _⟩ dX9_nextWord_56 (fun r25 M24 H locs hw hP hS => ?_)
                refine lv_aload_n hx hb dX9_nextWord_59 rfl (lv_at hl 1 rfl) ?_
                refine lv_iload_n hx hb dX9_nextWord_60 rfl (lv_at hl 2 rfl) ?_
                refine g_Vi (As := [.int x1_3]) (rest := [.int r25]) S hK hN hP hS (qX9_sizeOf l D E ad L A hF hLm M24 x1_3  _ hw) (cwV 1 hts gX9_nextWord_X9_sizeOf rfl rfl rfl eX9_sizeOf ⟨Nat.le_of_ble_eq_true rfl, Nat.le_of_ble_eq_true rfl⟩) (hLm.h (f := 21) (by decide)) (gC21 _ _ _ _) gcl9 rfl rfl rfl hl.1 (Nat.le_of_ble_eq_true rfl) ⟨Nat.zero_le _, Nat.zero_le _⟩ dX9_nextWord_61 (fun r27 M26 H locs hw hP hS => ?_)
                refine lv_icmp_ge (tgt := 71) hx hb dX9_nextWord_64 (by decide) (fun c28 => ?_) (fun c28 => ?_)
                · have hw := hw.1 c28
                  refine lv_iconst (v := (0 : Int32)) hx hb dX9_nextWord_71 (by decide) ?_
                  refine lv_istore (lv' := [(5, .int (0 : Int32)), (4, .int (0 : Int32)), (0, .ref (ad 21 0)), (1, .int x1_3), (2, .int x2_4), (3, .int x3_5)]) hx hb dX9_nextWord_72 hl (by decide) rfl (fun ls hl => ?_)
                  refine lv_iload hx hb dX9_nextWord_74 (lv_at hl 0 rfl) ?_
                  refine lv_if_eq (tgt := 83) hx hb dX9_nextWord_76 (by decide) (fun _ => ?_) (fun c => absurd (by decide) c)
                  refine lv_iload_n hx hb dX9_nextWord_83 rfl (lv_at hl 3 rfl) ?_
                  refine lv_istore_n (lv' := [(1, .int x1_3), (5, .int (0 : Int32)), (4, .int (0 : Int32)), (0, .ref (ad 21 0)), (2, .int x2_4), (3, .int x3_5)]) hx hb dX9_nextWord_84 rfl hl (by decide) rfl (fun ls hl => ?_)
                  refine lv_iload hx hb dX9_nextWord_85 (lv_at hl 1 rfl) ?_
                  refine lv_if_eq (tgt := 95) hx hb dX9_nextWord_87 (by decide) (fun _ => ?_) (fun c => absurd (by decide) c)
                  refine lv_iload_n hx hb dX9_nextWord_95 rfl (lv_at hl 4 rfl) ?_
                  refine lv_istore_n (lv' := [(2, .int x2_4), (1, .int x1_3), (5, .int (0 : Int32)), (4, .int (0 : Int32)), (0, .ref (ad 21 0)), (3, .int x3_5)]) hx hb dX9_nextWord_96 rfl hl (by decide) rfl (fun ls hl => ?_)
                  refine lv_iinc (v := (x3_5 + (1 : Int32))) (lv' := [(3, .int (x3_5 + (1 : Int32))), (2, .int x2_4), (1, .int x1_3), (5, .int (0 : Int32)), (4, .int (0 : Int32)), (0, .ref (ad 21 0))]) hx hb dX9_nextWord_97 hl (k := 5) rfl rfl (by decide) rfl (fun ls hl => ?_)
                  refine lv_goto (tgt := 7) hx hb dX9_nextWord_100 (by decide) ?_
                  exact ihn1 _ _ _ _ _ _ _ hw hP hS (lv_sub hl [5, 2, 1, 0] rfl)
                · have hw := hw.2 c28
                  refine lv_iconst (v := (1 : Int32)) hx hb dX9_nextWord_67 (by decide) ?_
                  refine lv_goto (tgt := 72) hx hb dX9_nextWord_68 (by decide) ?_
                  refine lv_istore (lv' := [(5, .int (1 : Int32)), (4, .int (0 : Int32)), (0, .ref (ad 21 0)), (1, .int x1_3), (2, .int x2_4), (3, .int x3_5)]) hx hb dX9_nextWord_72 hl (by decide) rfl (fun ls hl => ?_)
                  refine lv_iload hx hb dX9_nextWord_74 (lv_at hl 0 rfl) ?_
                  refine lv_if_eq (tgt := 83) hx hb dX9_nextWord_76 (by decide) (fun c => absurd c (by decide)) (fun _ => ?_)
                  refine lv_iload_n hx hb dX9_nextWord_79 rfl (lv_at hl 5 rfl) ?_
                  refine lv_goto (tgt := 84) hx hb dX9_nextWord_80 (by decide) ?_
                  refine lv_istore_n (lv' := [(1, .int x3_5), (5, .int (1 : Int32)), (4, .int (0 : Int32)), (0, .ref (ad 21 0)), (2, .int x2_4), (3, .int x3_5)]) hx hb dX9_nextWord_84 rfl hl (by decide) rfl (fun ls hl => ?_)
                  refine lv_iload hx hb dX9_nextWord_85 (lv_at hl 1 rfl) ?_
                  refine lv_if_eq (tgt := 95) hx hb dX9_nextWord_87 (by decide) (fun c => absurd c (by decide)) (fun _ => ?_)
                  refine lv_iload hx hb dX9_nextWord_90 (lv_at hl 2 rfl) ?_
                  refine lv_goto (tgt := 96) hx hb dX9_nextWord_92 (by decide) ?_
                  refine lv_istore_n (lv' := [(2, .int (0 : Int32)), (1, .int x3_5), (5, .int (1 : Int32)), (4, .int (0 : Int32)), (0, .ref (ad 21 0)), (3, .int x3_5)]) hx hb dX9_nextWord_96 rfl hl (by decide) rfl (fun ls hl => ?_)
                  refine lv_iinc (v := (x3_5 + (1 : Int32))) (lv' := [(3, .int (x3_5 + (1 : Int32))), (2, .int (0 : Int32)), (1, .int x3_5), (5, .int (1 : Int32)), (4, .int (0 : Int32)), (0, .ref (ad 21 0))]) hx hb dX9_nextWord_97 hl (k := 5) rfl rfl (by decide) rfl (fun ls hl => ?_)
                  refine lv_goto (tgt := 7) hx hb dX9_nextWord_100 (by decide) ?_
                  exact ihn1 _ _ _ _ _ _ _ hw hP hS (lv_sub hl [5, 2, 1, 0] rfl)
  exact hlX9_nextWord_L7 n33 _ _ _ _ _ _ _ hw hP hS (lv_sub hl [3, 2, 1, 0] rfl)
abbrev rmX9_makesSheet : Room := { frames := 4, cells := 0, slots := 0, locals := 94 }
theorem eX9_makesSheet : yX9_makesSheet.cls = RX9 ∧ yX9_makesSheet.cls ≠ "java/lang/invoke/MethodHandle" ∧ yX9_makesSheet.cls ≠ "java/lang/invoke/VarHandle" ∧ (parseMethodDescriptor yX9_makesSheet.desc).map (fun d => d.parameters.length) = some 1 := by decide +kernel
theorem iX9_makesSheet_X9 : ∀ w ∈ wsX90, w ∈ wsX9_makesSheet := fun _ h => List.mem_cons_of_mem _ (List.mem_append_right _ (h))
theorem mX9_makesSheet_1 : Cond.fieldLink RX9 93 "PracticeSheetsModel" "lines" "I" ∈ wsX9_makesSheet := List.mem_of_getElem? (i := 1) rfl
theorem mX9_makesSheet_2 : Cond.fieldLink RX9 28 "PracticeSheetsModel" "lineWord" "[I" ∈ wsX9_makesSheet := List.mem_of_getElem? (i := 2) rfl
theorem mX9_makesSheet_3 : Cond.fieldLink RX9 31 "PracticeSheetsModel" "lineGain" "[I" ∈ wsX9_makesSheet := List.mem_of_getElem? (i := 3) rfl
theorem mX9_makesSheet_4 : Cond.fieldLink RX9 61 "PracticeSheetsModel" "parts" "I" ∈ wsX9_makesSheet := List.mem_of_getElem? (i := 4) rfl
theorem mX9_makesSheet_5 : Cond.fieldLink RX9 34 "PracticeSheetsModel" "isCovered" "[I" ∈ wsX9_makesSheet := List.mem_of_getElem? (i := 5) rfl
theorem mX9_makesSheet_6 : Cond.fieldLink RX9 25 "PracticeSheetsModel" "part" "[I" ∈ wsX9_makesSheet := List.mem_of_getElem? (i := 6) rfl
set_option maxHeartbeats 4000000 in
set_option maxRecDepth 100000 in
theorem qX9_makesSheet (l : Launch) (D : va_G) (E : Nat → ClassId) (ad : Nat → Nat → Nat) (L : List (Nat × Nat)) (A : Nat → Prop) (hF : gF E ad L A) (hLm : gLm L) (M0 : gW) (a1 : Int32)  (K : gW → Prop) (hw : wX9_makesSheet M0 a1 K) : Met l yX9_makesSheet wsX9_makesSheet rmX9_makesSheet (va_Pc [.ref (ad 21 0), .int a1] (gPre D E ad L M0)) (gQv D E ad L A K) 0 0 A := by
  refine Met.ofW (cc := cX9_makesSheet) (maxL := 4) (ret := none) (by decide) rfl ?_
  intro p e s m args below meth c s₁ B hml hv
  obtain ⟨rfl, hP, hK, hN⟩ := hv
  have hx := B.exec
  have hb := B.bytes
  have hr := B.returns
  have hts := atoms_spec (ws := wsX9_makesSheet) B.pre
  have hown : s.vm.findClass RX9 = some m.cls := findClass_of_methodNamed B.named
  have hlocks := B.notSynchronized
  have S : CallFix p m c cX9_makesSheet 4 s ([.ref (ad 21 0), .int a1] : List Value).toArray wsX9_makesSheet RX9 := ⟨hx, hb, hml, hown, hts⟩
  have hS : va_S A s.heap s.heap [] := va_S.rf
  have hl := lv_entry ([.ref (ad 21 0), .int a1]) (n := 4) (Nat.le_of_ble_eq_true rfl)
  rw [lg_entry_eq]
  generalize (lg_sl ([.ref (ad 21 0), .int a1]) ++ List.replicate (4 - (lg_sl ([.ref (ad 21 0), .int a1])).length) Slot.unset).toArray = ls at hl ⊢
  have hl : lv_has ls 4 [(0, .ref (ad 21 0)), (1, .int a1)] := hl
  refine lv_aload_n hx hb dX9_makesSheet_0 rfl (lv_at hl 0 rfl) ?_
  refine lv_iconst (v := (0 : Int32)) hx hb dX9_makesSheet_1 (by decide) ?_
  refine g_put hx hb hF hts hown hK hP hS (hLm.h (f := 21) (by decide)) (gC21 _ _ _ _) gcl9 iX9_makesSheet_X9 tyX9 tyX9_ok nmX9 11 (by decide) mX9_makesSheet_1 rfl rfl rfl rfl (Nat.lt_of_lt_of_eq (by decide : 11 < 19) rfl) rfl dX9_makesSheet_2 (fun M1 e2 H locs hP hS => ?_)
  have hw := hw M1 e2
  refine lv_aload_n hx hb dX9_makesSheet_5 rfl (lv_at hl 0 rfl) ?_
  refine g_Vv (As := []) (rest := []) S hK hN hP hS (qX9_coversNone l D E ad L A hF hLm M1  _ hw) (cwV 0 hts gX9_makesSheet_X9_coversNone rfl rfl rfl eX9_coversNone ⟨Nat.le_of_ble_eq_true rfl, Nat.le_of_ble_eq_true rfl⟩) (hLm.h (f := 21) (by decide)) (gC21 _ _ _ _) gcl9 rfl rfl rfl hl.1 (Nat.le_of_ble_eq_true rfl) ⟨Nat.zero_le _, Nat.zero_le _⟩ dX9_makesSheet_6 (fun M3 H locs hw hP hS => ?_)
  refine lv_iload_n hx hb dX9_makesSheet_9 rfl (lv_at hl 1 rfl) ?_
  obtain ⟨J5, eJ5⟩ : ∃ J5 : gW → Int32 → Prop, J5 = (fun M8 z9 => (∃ n40 : Nat, wX9_makesSheet_L23 a1 (fun M38 x2_39 => (K M38)) n40 M8 z9)) := ⟨_, rfl⟩
  have hw : (a1 ≤ 0 → (J5 M3 (-5 : Int32))) ∧ (¬ (a1 ≤ 0) → (wX9_nextWord M3 (fun r7 M6 => (J5 M6 r7)))) := by rw [eJ5]; exact hw
  have hJ5 : ∀ (M8 : gW) (z9 : Int32) (H : Heap) (locs : List Loc) (ls : Array Slot), J5 M8 z9 → va_P D vwCl (gL E ad L M8) H → va_S A s.heap H locs → lv_has ls 4 [(0, .ref (ad 21 0)), (1, .int a1)] → W p l e (headSpec wsX9_makesSheet rmX9_makesSheet).room s m (([.ref (ad 21 0), .int a1] : List Value).toArray) below meth c H locs 0 0 (MQ below (gQv D E ad L A K) ([.ref (ad 21 0), .int a1] : List Value).toArray s 0 0 A) (F0 m 22 ls [.int z9]) := by
    intro M8 z9 H locs ls hw hP hS hl
    rw [eJ5] at hw
    refine lv_istore_n (lv' := [(2, .int z9), (0, .ref (ad 21 0)), (1, .int a1)]) hx hb dX9_makesSheet_22 rfl hl (by decide) rfl (fun ls hl => ?_)
    obtain ⟨n40, hw⟩ := hw
    have hxX9_makesSheet_L23_0 : ∀ (M38 : gW) (x2_39 : Int32) (H : Heap) (locs : List Loc) (ls : Array Slot), (K M38) → va_P D vwCl (gL E ad L M38) H → va_S A s.heap H locs → lv_has ls 4 [(0, .ref (ad 21 0)), (1, .int a1), (2, .int x2_39)] → W p l e (headSpec wsX9_makesSheet rmX9_makesSheet).room s m (([.ref (ad 21 0), .int a1] : List Value).toArray) below meth c H locs 0 0 (MQ below (gQv D E ad L A K) ([.ref (ad 21 0), .int a1] : List Value).toArray s 0 0 A) (F0 m 112 ls []) := by
      intro M38 x2_39 H locs ls hw hP hS hl
      exact g_vret hx hb hr hlocks hw hP hS dX9_makesSheet_112
    have hlX9_makesSheet_L23 : ∀ (n10 : Nat) (M11 : gW) (x2_12 : Int32) (H : Heap) (locs : List Loc) (ls : Array Slot), wX9_makesSheet_L23 a1 (fun M38 x2_39 => (K M38)) n10 M11 x2_12 → va_P D vwCl (gL E ad L M11) H → va_S A s.heap H locs → lv_has ls 4 [(0, .ref (ad 21 0)), (1, .int a1), (2, .int x2_12)] → W p l e (headSpec wsX9_makesSheet rmX9_makesSheet).room s m (([.ref (ad 21 0), .int a1] : List Value).toArray) below meth c H locs 0 0 (MQ below (gQv D E ad L A K) ([.ref (ad 21 0), .int a1] : List Value).toArray s 0 0 A) (F0 m 23 ls []) := by
      intro n10
      induction n10 with
      | zero => intro M11 x2_12 H locs ls hw; exact False.elim hw
      | succ n10 ihn10 =>
        intro M11 x2_12 H locs ls hw hP hS hl
        refine lv_iload_n hx hb dX9_makesSheet_23 rfl (lv_at hl 2 rfl) ?_
        refine lv_bipush (v := (-5 : Int32)) hx hb dX9_makesSheet_24 (by decide) ?_
        refine lv_icmp_eq (tgt := 112) hx hb dX9_makesSheet_26 (by decide) (fun c13 => ?_) (fun c13 => ?_)
        · have hw := hw.1 c13
          exact hxX9_makesSheet_L23_0 _ _ _ _ _ hw hP hS (lv_sub hl [0, 1, 2] rfl)
        · have hw := hw.2 c13
          refine lv_aload_n hx hb dX9_makesSheet_29 rfl (lv_at hl 0 rfl) ?_
          refine g_get (v := .ref (ad 22 6)) hx hb hts hown hK hP (hLm.h (f := 21) (by decide)) (gC21 _ _ _ _) gcl9 iX9_makesSheet_X9 9 (by decide) mX9_makesSheet_2 rfl rfl dX9_makesSheet_30 ?_
          refine lv_aload_n hx hb dX9_makesSheet_33 rfl (lv_at hl 0 rfl) ?_
          refine g_get (v := .int (M11 21 0 11)) hx hb hts hown hK hP (hLm.h (f := 21) (by decide)) (gC21 _ _ _ _) gcl9 iX9_makesSheet_X9 11 (by decide) mX9_makesSheet_1 rfl rfl dX9_makesSheet_34 ?_
          refine lv_iload_n hx hb dX9_makesSheet_37 rfl (lv_at hl 2 rfl) ?_
          have hb14 := hw.1
          have hw := hw.2
          refine g_iast (n := 10) hx hb hF hK hP hS (hLm.h (f := 22) (by decide)) (fun _ => rfl) hb14 dX9_makesSheet_38 (fun M15 e16 H locs hP hS => ?_)
          have hw := hw M15 e16
          refine lv_aload_n hx hb dX9_makesSheet_39 rfl (lv_at hl 0 rfl) ?_
          refine g_get (v := .ref (ad 22 7)) hx hb hts hown hK hP (hLm.h (f := 21) (by decide)) (gC21 _ _ _ _) gcl9 iX9_makesSheet_X9 10 (by decide) mX9_makesSheet_3 rfl rfl dX9_makesSheet_40 ?_
          refine lv_aload_n hx hb dX9_makesSheet_43 rfl (lv_at hl 0 rfl) ?_
          refine g_get (v := .int (M15 21 0 11)) hx hb hts hown hK hP (hLm.h (f := 21) (by decide)) (gC21 _ _ _ _) gcl9 iX9_makesSheet_X9 11 (by decide) mX9_makesSheet_1 rfl rfl dX9_makesSheet_44 ?_
          refine lv_aload_n hx hb dX9_makesSheet_47 rfl (lv_at hl 0 rfl) ?_
          refine lv_iload_n hx hb dX9_makesSheet_48 rfl (lv_at hl 2 rfl) ?_
          refine g_Vi (As := [.int x2_12]) (rest := [.int (M15 21 0 11), .ref (ad 22 7)]) S hK hN hP hS (qX9_gainOf l D E ad L A hF hLm M15 x2_12  _ hw) (cwV 1 hts gX9_makesSheet_X9_gainOf rfl rfl rfl eX9_gainOf ⟨Nat.le_of_ble_eq_true rfl, Nat.le_of_ble_eq_true rfl⟩) (hLm.h (f := 21) (by decide)) (gC21 _ _ _ _) gcl9 rfl rfl rfl hl.1 (Nat.le_of_ble_eq_true rfl) ⟨Nat.zero_le _, Nat.zero_le _⟩ dX9_makesSheet_49 (fun r18 M17 H locs hw hP hS => ?_)
          have hb19 := hw.1
          have hw := hw.2
          refine g_iast (n := 10) hx hb hF hK hP hS (hLm.h (f := 22) (by decide)) (fun _ => rfl) hb19 dX9_makesSheet_52 (fun M20 e21 H locs hP hS => ?_)
          have hw := hw M20 e21
          refine lv_aload_n hx hb dX9_makesSheet_53 rfl (lv_at hl 0 rfl) ?_
          refine lv_dup hx hb dX9_makesSheet_54 rfl ?_
          refine g_get (v := .int (M20 21 0 11)) hx hb hts hown hK hP (hLm.h (f := 21) (by decide)) (gC21 _ _ _ _) gcl9 iX9_makesSheet_X9 11 (by decide) mX9_makesSheet_1 rfl rfl dX9_makesSheet_55 ?_
          refine lv_iconst (v := (1 : Int32)) hx hb dX9_makesSheet_58 (by decide) ?_
          refine lv_iadd hx hb dX9_makesSheet_59 ?_
          refine g_put hx hb hF hts hown hK hP hS (hLm.h (f := 21) (by decide)) (gC21 _ _ _ _) gcl9 iX9_makesSheet_X9 tyX9 tyX9_ok nmX9 11 (by decide) mX9_makesSheet_1 rfl rfl rfl rfl (Nat.lt_of_lt_of_eq (by decide : 11 < 19) rfl) rfl dX9_makesSheet_60 (fun M22 e23 H locs hP hS => ?_)
          have hw := hw M22 e23
          refine lv_iconst (v := (0 : Int32)) hx hb dX9_makesSheet_63 (by decide) ?_
          refine lv_istore_n (lv' := [(3, .int (0 : Int32)), (0, .ref (ad 21 0)), (1, .int a1), (2, .int x2_12)]) hx hb dX9_makesSheet_64 rfl hl (by decide) rfl (fun ls hl => ?_)
          obtain ⟨n37, hw⟩ := hw
          have hxX9_makesSheet_L65_0 : ∀ (M32 : gW) (x3_33 : Int32) (H : Heap) (locs : List Loc) (ls : Array Slot), ((a1 ≤ (M32 21 0 11) → (wX9_makesSheet_L23 a1 (fun M38 x2_39 => (K M38)) n10 M32 (-5 : Int32))) ∧ (¬ (a1 ≤ (M32 21 0 11)) → (wX9_nextWord M32 (fun r36 M35 => (wX9_makesSheet_L23 a1 (fun M38 x2_39 => (K M38)) n10 M35 r36))))) → va_P D vwCl (gL E ad L M32) H → va_S A s.heap H locs → lv_has ls 4 [(0, .ref (ad 21 0)), (1, .int a1), (2, .int x2_12), (3, .int x3_33)] → W p l e (headSpec wsX9_makesSheet rmX9_makesSheet).room s m (([.ref (ad 21 0), .int a1] : List Value).toArray) below meth c H locs 0 0 (MQ below (gQv D E ad L A K) ([.ref (ad 21 0), .int a1] : List Value).toArray s 0 0 A) (F0 m 91 ls []) := by
            intro M32 x3_33 H locs ls hw hP hS hl
            refine lv_aload_n hx hb dX9_makesSheet_91 rfl (lv_at hl 0 rfl) ?_
            refine g_get (v := .int (M32 21 0 11)) hx hb hts hown hK hP (hLm.h (f := 21) (by decide)) (gC21 _ _ _ _) gcl9 iX9_makesSheet_X9 11 (by decide) mX9_makesSheet_1 rfl rfl dX9_makesSheet_92 ?_
            refine lv_iload_n hx hb dX9_makesSheet_95 rfl (lv_at hl 1 rfl) ?_
            refine lv_icmp_ge (tgt := 106) hx hb dX9_makesSheet_96 (by decide) (fun c34 => ?_) (fun c34 => ?_)
            · have hw := hw.1 c34
              refine lv_bipush (v := (-5 : Int32)) hx hb dX9_makesSheet_106 (by decide) ?_
              refine lv_istore_n (lv' := [(2, .int (-5 : Int32)), (0, .ref (ad 21 0)), (1, .int a1), (3, .int x3_33)]) hx hb dX9_makesSheet_108 rfl hl (by decide) rfl (fun ls hl => ?_)
              refine lv_goto (tgt := 23) hx hb dX9_makesSheet_109 (by decide) ?_
              exact ihn10 _ _ _ _ _ hw hP hS (lv_sub hl [1, 2, 0] rfl)
            · have hw := hw.2 c34
              refine lv_aload_n hx hb dX9_makesSheet_99 rfl (lv_at hl 0 rfl) ?_
              refine g_Vi (As := []) (rest := []) S hK hN hP hS (qX9_nextWord l D E ad L A hF hLm M32  _ hw) (cwV 0 hts gX9_makesSheet_X9_nextWord rfl rfl rfl eX9_nextWord ⟨Nat.le_of_ble_eq_true rfl, Nat.le_of_ble_eq_true rfl⟩) (hLm.h (f := 21) (by decide)) (gC21 _ _ _ _) gcl9 rfl rfl rfl hl.1 (Nat.le_of_ble_eq_true rfl) ⟨Nat.zero_le _, Nat.zero_le _⟩ dX9_makesSheet_100 (fun r36 M35 H locs hw hP hS => ?_)
              refine lv_goto (tgt := 108) hx hb dX9_makesSheet_103 (by decide) ?_
              refine lv_istore_n (lv' := [(2, .int r36), (0, .ref (ad 21 0)), (1, .int a1), (3, .int x3_33)]) hx hb dX9_makesSheet_108 rfl hl (by decide) rfl (fun ls hl => ?_)
              refine lv_goto (tgt := 23) hx hb dX9_makesSheet_109 (by decide) ?_
              exact ihn10 _ _ _ _ _ hw hP hS (lv_sub hl [1, 2, 0] rfl)
          have hlX9_makesSheet_L65 : ∀ (n24 : Nat) (M25 : gW) (x3_26 : Int32) (H : Heap) (locs : List Loc) (ls : Array Slot), wX9_makesSheet_L65 (fun M32 x3_33 => ((a1 ≤ (M32 21 0 11) → (wX9_makesSheet_L23 a1 (fun M38 x2_39 => (K M38)) n10 M32 (-5 : Int32))) ∧ (¬ (a1 ≤ (M32 21 0 11)) → (wX9_nextWord M32 (fun r36 M35 => (wX9_makesSheet_L23 a1 (fun M38 x2_39 => (K M38)) n10 M35 r36)))))) n24 M25 x3_26 → va_P D vwCl (gL E ad L M25) H → va_S A s.heap H locs → lv_has ls 4 [(0, .ref (ad 21 0)), (1, .int a1), (2, .int x2_12), (3, .int x3_26)] → W p l e (headSpec wsX9_makesSheet rmX9_makesSheet).room s m (([.ref (ad 21 0), .int a1] : List Value).toArray) below meth c H locs 0 0 (MQ below (gQv D E ad L A K) ([.ref (ad 21 0), .int a1] : List Value).toArray s 0 0 A) (F0 m 65 ls []) := by
            intro n24
            induction n24 with
            | zero => intro M25 x3_26 H locs ls hw; exact False.elim hw
            | succ n24 ihn24 =>
              intro M25 x3_26 H locs ls hw hP hS hl
              refine lv_iload_n hx hb dX9_makesSheet_65 rfl (lv_at hl 3 rfl) ?_
              refine lv_aload_n hx hb dX9_makesSheet_66 rfl (lv_at hl 0 rfl) ?_
              refine g_get (v := .int (M25 21 0 8)) hx hb hts hown hK hP (hLm.h (f := 21) (by decide)) (gC21 _ _ _ _) gcl9 iX9_makesSheet_X9 8 (by decide) mX9_makesSheet_4 rfl rfl dX9_makesSheet_67 ?_
              refine lv_icmp_ge (tgt := 91) hx hb dX9_makesSheet_70 (by decide) (fun c27 => ?_) (fun c27 => ?_)
              · have hw := hw.1 c27
                exact hxX9_makesSheet_L65_0 _ _ _ _ _ hw hP hS (lv_sub hl [0, 1, 2, 3] rfl)
              · have hw := hw.2 c27
                refine lv_aload_n hx hb dX9_makesSheet_73 rfl (lv_at hl 0 rfl) ?_
                refine g_get (v := .ref (ad 22 8)) hx hb hts hown hK hP (hLm.h (f := 21) (by decide)) (gC21 _ _ _ _) gcl9 iX9_makesSheet_X9 12 (by decide) mX9_makesSheet_5 rfl rfl dX9_makesSheet_74 ?_
                refine lv_aload_n hx hb dX9_makesSheet_77 rfl (lv_at hl 0 rfl) ?_
                refine g_get (v := .ref (ad 22 5)) hx hb hts hown hK hP (hLm.h (f := 21) (by decide)) (gC21 _ _ _ _) gcl9 iX9_makesSheet_X9 7 (by decide) mX9_makesSheet_6 rfl rfl dX9_makesSheet_78 ?_
                refine lv_iload_n hx hb dX9_makesSheet_81 rfl (lv_at hl 3 rfl) ?_
                have hb28 := hw.1
                have hw := hw.2
                refine g_iald (n := 29) hx hb hK hP (hLm.h (f := 22) (by decide)) rfl hb28 dX9_makesSheet_82 ?_
                refine lv_iconst (v := (1 : Int32)) hx hb dX9_makesSheet_83 (by decide) ?_
                have hb29 := hw.1
                have hw := hw.2
                refine g_iast (n := 702) hx hb hF hK hP hS (hLm.h (f := 22) (by decide)) (fun _ => rfl) hb29 dX9_makesSheet_84 (fun M30 e31 H locs hP hS => ?_)
                have hw := hw M30 e31
                refine lv_iinc (v := (x3_26 + (1 : Int32))) (lv' := [(3, .int (x3_26 + (1 : Int32))), (0, .ref (ad 21 0)), (1, .int a1), (2, .int x2_12)]) hx hb dX9_makesSheet_85 hl (k := 3) rfl rfl (by decide) rfl (fun ls hl => ?_)
                refine lv_goto (tgt := 65) hx hb dX9_makesSheet_88 (by decide) ?_
                exact ihn24 _ _ _ _ _ hw hP hS (lv_sub hl [1, 2, 3, 0] rfl)
          exact hlX9_makesSheet_L65 n37 _ _ _ _ _ hw hP hS (lv_sub hl [1, 2, 3, 0] rfl)
    exact hlX9_makesSheet_L23 n40 _ _ _ _ _ hw hP hS (lv_sub hl [1, 2, 0] rfl)
  refine lv_if_le (tgt := 20) hx hb dX9_makesSheet_10 (by decide) (fun c4 => ?_) (fun c4 => ?_)
  · have hw := hw.1 c4
    refine lv_bipush (v := (-5 : Int32)) hx hb dX9_makesSheet_20 (by decide) ?_
    exact hJ5 _ _ _ _ _ hw hP hS (lv_sub hl [0, 1] rfl)
  · have hw := hw.2 c4
    refine lv_aload_n hx hb dX9_makesSheet_13 rfl (lv_at hl 0 rfl) ?_
    refine g_Vi (As := []) (rest := []) S hK hN hP hS (qX9_nextWord l D E ad L A hF hLm M3  _ hw) (cwV 0 hts gX9_makesSheet_X9_nextWord rfl rfl rfl eX9_nextWord ⟨Nat.le_of_ble_eq_true rfl, Nat.le_of_ble_eq_true rfl⟩) (hLm.h (f := 21) (by decide)) (gC21 _ _ _ _) gcl9 rfl rfl rfl hl.1 (Nat.le_of_ble_eq_true rfl) ⟨Nat.zero_le _, Nat.zero_le _⟩ dX9_makesSheet_14 (fun r7 M6 H locs hw hP hS => ?_)
    refine lv_goto (tgt := 22) hx hb dX9_makesSheet_17 (by decide) ?_
    exact hJ5 _ _ _ _ _ hw hP hS (lv_sub hl [0, 1] rfl)
abbrev rmX9_writesSheet : Room := { frames := 1, cells := 0, slots := 0, locals := 22 }
theorem eX9_writesSheet : yX9_writesSheet.cls = RX9 ∧ yX9_writesSheet.cls ≠ "java/lang/invoke/MethodHandle" ∧ yX9_writesSheet.cls ≠ "java/lang/invoke/VarHandle" ∧ (parseMethodDescriptor yX9_writesSheet.desc).map (fun d => d.parameters.length) = some 0 := by decide +kernel
theorem iX9_writesSheet_X9 : ∀ w ∈ wsX90, w ∈ wsX9_writesSheet := fun _ h => List.mem_cons_of_mem _ (List.mem_append_right _ (h))
theorem mX9_writesSheet_1 : Cond.fieldLink RX9 93 "PracticeSheetsModel" "lines" "I" ∈ wsX9_writesSheet := List.mem_of_getElem? (i := 1) rfl
theorem mX9_writesSheet_2 : Cond.fieldLink RX9 28 "PracticeSheetsModel" "lineWord" "[I" ∈ wsX9_writesSheet := List.mem_of_getElem? (i := 2) rfl
theorem mX9_writesSheet_3 : Cond.fieldLink RX9 7 "PracticeSheetsModel" "all" "[I" ∈ wsX9_writesSheet := List.mem_of_getElem? (i := 3) rfl
set_option maxHeartbeats 4000000 in
set_option maxRecDepth 100000 in
theorem qX9_writesSheet (l : Launch) (D : va_G) (E : Nat → ClassId) (ad : Nat → Nat → Nat) (L : List (Nat × Nat)) (A : Nat → Prop) (hF : gF E ad L A) (hLm : gLm L) (M0 : gW)  (K : gW → Prop) (hw : wX9_writesSheet M0 K) : Met l yX9_writesSheet wsX9_writesSheet rmX9_writesSheet (va_Pc [.ref (ad 21 0)] (gPre D E ad L M0)) (gQv D E ad L A K) 0 0 A := by
  refine Met.ofW (cc := cX9_writesSheet) (maxL := 4) (ret := none) (by decide) rfl ?_
  intro p e s m args below meth c s₁ B hml hv
  obtain ⟨rfl, hP, hK, hN⟩ := hv
  have hx := B.exec
  have hb := B.bytes
  have hr := B.returns
  have hts := atoms_spec (ws := wsX9_writesSheet) B.pre
  have hown : s.vm.findClass RX9 = some m.cls := findClass_of_methodNamed B.named
  have hlocks := B.notSynchronized
  have S : CallFix p m c cX9_writesSheet 4 s ([.ref (ad 21 0)] : List Value).toArray wsX9_writesSheet RX9 := ⟨hx, hb, hml, hown, hts⟩
  have hS : va_S A s.heap s.heap [] := va_S.rf
  have hl := lv_entry ([.ref (ad 21 0)]) (n := 4) (Nat.le_of_ble_eq_true rfl)
  rw [lg_entry_eq]
  generalize (lg_sl ([.ref (ad 21 0)]) ++ List.replicate (4 - (lg_sl ([.ref (ad 21 0)])).length) Slot.unset).toArray = ls at hl ⊢
  have hl : lv_has ls 4 [(0, .ref (ad 21 0))] := hl
  refine lv_iconst (v := (0 : Int32)) hx hb dX9_writesSheet_0 (by decide) ?_
  refine lv_istore_n (lv' := [(1, .int (0 : Int32)), (0, .ref (ad 21 0))]) hx hb dX9_writesSheet_1 rfl hl (by decide) rfl (fun ls hl => ?_)
  obtain ⟨n36, hw⟩ := hw
  have hxX9_writesSheet_L2_0 : ∀ (M26 : gW) (x1_27 : Int32) (H : Heap) (locs : List Loc) (ls : Array Slot), ((vp_in (2 : Int32) 1730) ∧ ((vp_in (2 : Int32) 1730) ∧ (∀ M30 : gW, M30 = gU M26 22 0 (upd (M26 22 0) (2 : Int32).toNatClampNeg ((M26 22 0 (2 : Int32).toNatClampNeg) + (M26 21 0 11))) → ((vp_in (4 : Int32) 1730) ∧ ((vp_in (4 : Int32) 1730) ∧ (∀ M34 : gW, M34 = gU M30 22 0 (upd (M30 22 0) (4 : Int32).toNatClampNeg ((M30 22 0 (4 : Int32).toNatClampNeg) + (1 : Int32))) → (K M34))))))) → va_P D vwCl (gL E ad L M26) H → va_S A s.heap H locs → lv_has ls 4 [(0, .ref (ad 21 0)), (1, .int x1_27)] → W p l e (headSpec wsX9_writesSheet rmX9_writesSheet).room s m (([.ref (ad 21 0)] : List Value).toArray) below meth c H locs 0 0 (MQ below (gQv D E ad L A K) ([.ref (ad 21 0)] : List Value).toArray s 0 0 A) (F0 m 77 ls []) := by
    intro M26 x1_27 H locs ls hw hP hS hl
    refine lv_aload_n hx hb dX9_writesSheet_77 rfl (lv_at hl 0 rfl) ?_
    refine g_get (v := .ref (ad 22 0)) hx hb hts hown hK hP (hLm.h (f := 21) (by decide)) (gC21 _ _ _ _) gcl9 iX9_writesSheet_X9 0 (by decide) mX9_writesSheet_3 rfl rfl dX9_writesSheet_78 ?_
    refine lv_iconst (v := (2 : Int32)) hx hb dX9_writesSheet_81 (by decide) ?_
    refine lv_dup2_11 hx hb dX9_writesSheet_82 rfl rfl ?_
    have hb28 := hw.1
    have hw := hw.2
    refine g_iald (n := 1730) hx hb hK hP (hLm.h (f := 22) (by decide)) rfl hb28 dX9_writesSheet_83 ?_
    refine lv_aload_n hx hb dX9_writesSheet_84 rfl (lv_at hl 0 rfl) ?_
    refine g_get (v := .int (M26 21 0 11)) hx hb hts hown hK hP (hLm.h (f := 21) (by decide)) (gC21 _ _ _ _) gcl9 iX9_writesSheet_X9 11 (by decide) mX9_writesSheet_1 rfl rfl dX9_writesSheet_85 ?_
    refine lv_iadd hx hb dX9_writesSheet_88 ?_
    have hb29 := hw.1
    have hw := hw.2
    refine g_iast (n := 1730) hx hb hF hK hP hS (hLm.h (f := 22) (by decide)) (fun _ => rfl) hb29 dX9_writesSheet_89 (fun M30 e31 H locs hP hS => ?_)
    have hw := hw M30 e31
    refine lv_aload_n hx hb dX9_writesSheet_90 rfl (lv_at hl 0 rfl) ?_
    refine g_get (v := .ref (ad 22 0)) hx hb hts hown hK hP (hLm.h (f := 21) (by decide)) (gC21 _ _ _ _) gcl9 iX9_writesSheet_X9 0 (by decide) mX9_writesSheet_3 rfl rfl dX9_writesSheet_91 ?_
    refine lv_iconst (v := (4 : Int32)) hx hb dX9_writesSheet_94 (by decide) ?_
    refine lv_dup2_11 hx hb dX9_writesSheet_95 rfl rfl ?_
    have hb32 := hw.1
    have hw := hw.2
    refine g_iald (n := 1730) hx hb hK hP (hLm.h (f := 22) (by decide)) rfl hb32 dX9_writesSheet_96 ?_
    refine lv_iconst (v := (1 : Int32)) hx hb dX9_writesSheet_97 (by decide) ?_
    refine lv_iadd hx hb dX9_writesSheet_98 ?_
    have hb33 := hw.1
    have hw := hw.2
    refine g_iast (n := 1730) hx hb hF hK hP hS (hLm.h (f := 22) (by decide)) (fun _ => rfl) hb33 dX9_writesSheet_99 (fun M34 e35 H locs hP hS => ?_)
    have hw := hw M34 e35
    exact g_vret hx hb hr hlocks hw hP hS dX9_writesSheet_100
  have hlX9_writesSheet_L2 : ∀ (n1 : Nat) (M2 : gW) (x1_3 : Int32) (H : Heap) (locs : List Loc) (ls : Array Slot), wX9_writesSheet_L2 (fun M26 x1_27 => ((vp_in (2 : Int32) 1730) ∧ ((vp_in (2 : Int32) 1730) ∧ (∀ M30 : gW, M30 = gU M26 22 0 (upd (M26 22 0) (2 : Int32).toNatClampNeg ((M26 22 0 (2 : Int32).toNatClampNeg) + (M26 21 0 11))) → ((vp_in (4 : Int32) 1730) ∧ ((vp_in (4 : Int32) 1730) ∧ (∀ M34 : gW, M34 = gU M30 22 0 (upd (M30 22 0) (4 : Int32).toNatClampNeg ((M30 22 0 (4 : Int32).toNatClampNeg) + (1 : Int32))) → (K M34)))))))) n1 M2 x1_3 → va_P D vwCl (gL E ad L M2) H → va_S A s.heap H locs → lv_has ls 4 [(0, .ref (ad 21 0)), (1, .int x1_3)] → W p l e (headSpec wsX9_writesSheet rmX9_writesSheet).room s m (([.ref (ad 21 0)] : List Value).toArray) below meth c H locs 0 0 (MQ below (gQv D E ad L A K) ([.ref (ad 21 0)] : List Value).toArray s 0 0 A) (F0 m 2 ls []) := by
    intro n1
    induction n1 with
    | zero => intro M2 x1_3 H locs ls hw; exact False.elim hw
    | succ n1 ihn1 =>
      intro M2 x1_3 H locs ls hw hP hS hl
      refine lv_iload_n hx hb dX9_writesSheet_2 rfl (lv_at hl 1 rfl) ?_
      refine lv_aload_n hx hb dX9_writesSheet_3 rfl (lv_at hl 0 rfl) ?_
      refine g_get (v := .int (M2 21 0 11)) hx hb hts hown hK hP (hLm.h (f := 21) (by decide)) (gC21 _ _ _ _) gcl9 iX9_writesSheet_X9 11 (by decide) mX9_writesSheet_1 rfl rfl dX9_writesSheet_4 ?_
      refine lv_icmp_ge (tgt := 77) hx hb dX9_writesSheet_7 (by decide) (fun c4 => ?_) (fun c4 => ?_)
      · have hw := hw.1 c4
        exact hxX9_writesSheet_L2_0 _ _ _ _ _ hw hP hS (lv_sub hl [0, 1] rfl)
      · have hw := hw.2 c4
        refine lv_aload_n hx hb dX9_writesSheet_10 rfl (lv_at hl 0 rfl) ?_
        refine g_get (v := .ref (ad 22 6)) hx hb hts hown hK hP (hLm.h (f := 21) (by decide)) (gC21 _ _ _ _) gcl9 iX9_writesSheet_X9 9 (by decide) mX9_writesSheet_2 rfl rfl dX9_writesSheet_11 ?_
        refine lv_iload_n hx hb dX9_writesSheet_14 rfl (lv_at hl 1 rfl) ?_
        have hb5 := hw.1
        have hw := hw.2
        refine g_iald (n := 10) hx hb hK hP (hLm.h (f := 22) (by decide)) rfl hb5 dX9_writesSheet_15 ?_
        refine lv_istore_n (lv' := [(2, .int (M2 22 6 x1_3.toNatClampNeg)), (0, .ref (ad 21 0)), (1, .int x1_3)]) hx hb dX9_writesSheet_16 rfl hl (by decide) rfl (fun ls hl => ?_)
        refine lv_iconst (v := (0 : Int32)) hx hb dX9_writesSheet_17 (by decide) ?_
        refine lv_istore_n (lv' := [(3, .int (0 : Int32)), (2, .int (M2 22 6 x1_3.toNatClampNeg)), (0, .ref (ad 21 0)), (1, .int x1_3)]) hx hb dX9_writesSheet_18 rfl hl (by decide) rfl (fun ls hl => ?_)
        obtain ⟨n25, hw⟩ := hw
        have hxX9_writesSheet_L19_0 : ∀ (M23 : gW) (x3_24 : Int32) (H : Heap) (locs : List Loc) (ls : Array Slot), (wX9_writesSheet_L2 (fun M26 x1_27 => ((vp_in (2 : Int32) 1730) ∧ ((vp_in (2 : Int32) 1730) ∧ (∀ M30 : gW, M30 = gU M26 22 0 (upd (M26 22 0) (2 : Int32).toNatClampNeg ((M26 22 0 (2 : Int32).toNatClampNeg) + (M26 21 0 11))) → ((vp_in (4 : Int32) 1730) ∧ ((vp_in (4 : Int32) 1730) ∧ (∀ M34 : gW, M34 = gU M30 22 0 (upd (M30 22 0) (4 : Int32).toNatClampNeg ((M30 22 0 (4 : Int32).toNatClampNeg) + (1 : Int32))) → (K M34)))))))) n1 M23 (x1_3 + (1 : Int32))) → va_P D vwCl (gL E ad L M23) H → va_S A s.heap H locs → lv_has ls 4 [(0, .ref (ad 21 0)), (1, .int x1_3), (2, .int (M2 22 6 x1_3.toNatClampNeg)), (3, .int x3_24)] → W p l e (headSpec wsX9_writesSheet rmX9_writesSheet).room s m (([.ref (ad 21 0)] : List Value).toArray) below meth c H locs 0 0 (MQ below (gQv D E ad L A K) ([.ref (ad 21 0)] : List Value).toArray s 0 0 A) (F0 m 71 ls []) := by
          intro M23 x3_24 H locs ls hw hP hS hl
          refine lv_iinc (v := (x1_3 + (1 : Int32))) (lv' := [(1, .int (x1_3 + (1 : Int32))), (0, .ref (ad 21 0)), (2, .int (M2 22 6 x1_3.toNatClampNeg)), (3, .int x3_24)]) hx hb dX9_writesSheet_71 hl (k := 1) rfl rfl (by decide) rfl (fun ls hl => ?_)
          refine lv_goto (tgt := 2) hx hb dX9_writesSheet_74 (by decide) ?_
          exact ihn1 _ _ _ _ _ hw hP hS (lv_sub hl [1, 0] rfl)
        have hlX9_writesSheet_L19 : ∀ (n6 : Nat) (M7 : gW) (x3_8 : Int32) (H : Heap) (locs : List Loc) (ls : Array Slot), wX9_writesSheet_L19 M2 x1_3 (fun M23 x3_24 => (wX9_writesSheet_L2 (fun M26 x1_27 => ((vp_in (2 : Int32) 1730) ∧ ((vp_in (2 : Int32) 1730) ∧ (∀ M30 : gW, M30 = gU M26 22 0 (upd (M26 22 0) (2 : Int32).toNatClampNeg ((M26 22 0 (2 : Int32).toNatClampNeg) + (M26 21 0 11))) → ((vp_in (4 : Int32) 1730) ∧ ((vp_in (4 : Int32) 1730) ∧ (∀ M34 : gW, M34 = gU M30 22 0 (upd (M30 22 0) (4 : Int32).toNatClampNeg ((M30 22 0 (4 : Int32).toNatClampNeg) + (1 : Int32))) → (K M34)))))))) n1 M23 (x1_3 + (1 : Int32)))) n6 M7 x3_8 → va_P D vwCl (gL E ad L M7) H → va_S A s.heap H locs → lv_has ls 4 [(0, .ref (ad 21 0)), (1, .int x1_3), (2, .int (M2 22 6 x1_3.toNatClampNeg)), (3, .int x3_8)] → W p l e (headSpec wsX9_writesSheet rmX9_writesSheet).room s m (([.ref (ad 21 0)] : List Value).toArray) below meth c H locs 0 0 (MQ below (gQv D E ad L A K) ([.ref (ad 21 0)] : List Value).toArray s 0 0 A) (F0 m 19 ls []) := by
          intro n6
          induction n6 with
          | zero => intro M7 x3_8 H locs ls hw; exact False.elim hw
          | succ n6 ihn6 =>
            intro M7 x3_8 H locs ls hw hP hS hl
            refine lv_iload_n hx hb dX9_writesSheet_19 rfl (lv_at hl 3 rfl) ?_
            refine lv_aload_n hx hb dX9_writesSheet_20 rfl (lv_at hl 0 rfl) ?_
            refine lv_iload_n hx hb dX9_writesSheet_21 rfl (lv_at hl 2 rfl) ?_
            refine g_Vi (As := [.int (M2 22 6 x1_3.toNatClampNeg)]) (rest := [.int x3_8]) S hK hN hP hS (qX9_sizeOf l D E ad L A hF hLm M7 (M2 22 6 x1_3.toNatClampNeg)  _ hw) (cwV 1 hts gX9_writesSheet_X9_sizeOf rfl rfl rfl eX9_sizeOf ⟨Nat.le_of_ble_eq_true rfl, Nat.le_of_ble_eq_true rfl⟩) (hLm.h (f := 21) (by decide)) (gC21 _ _ _ _) gcl9 rfl rfl rfl hl.1 (Nat.le_of_ble_eq_true rfl) ⟨Nat.zero_le _, Nat.zero_le _⟩ dX9_writesSheet_22 (fun r10 M9 H locs hw hP hS => ?_)
            refine lv_icmp_ge (tgt := 71) hx hb dX9_writesSheet_25 (by decide) (fun c11 => ?_) (fun c11 => ?_)
            · have hw := hw.1 c11
              exact hxX9_writesSheet_L19_0 _ _ _ _ _ hw hP hS (lv_sub hl [0, 1, 2, 3] rfl)
            · have hw := hw.2 c11
              refine lv_aload_n hx hb dX9_writesSheet_28 rfl (lv_at hl 0 rfl) ?_
              refine lv_aload_n hx hb dX9_writesSheet_29 rfl (lv_at hl 0 rfl) ?_
              refine lv_iload_n hx hb dX9_writesSheet_30 rfl (lv_at hl 2 rfl) ?_
              refine lv_iload_n hx hb dX9_writesSheet_31 rfl (lv_at hl 3 rfl) ?_
              refine g_Vi (As := [.int (M2 22 6 x1_3.toNatClampNeg), .int x3_8]) (rest := [.ref (ad 21 0)]) S hK hN hP hS (qX9_letterAt l D E ad L A hF hLm M9 (M2 22 6 x1_3.toNatClampNeg) x3_8  _ hw) (cwV 2 hts gX9_writesSheet_X9_letterAt rfl rfl rfl eX9_letterAt ⟨Nat.le_of_ble_eq_true rfl, Nat.le_of_ble_eq_true rfl⟩) (hLm.h (f := 21) (by decide)) (gC21 _ _ _ _) gcl9 rfl rfl rfl hl.1 (Nat.le_of_ble_eq_true rfl) ⟨Nat.zero_le _, Nat.zero_le _⟩ dX9_writesSheet_32 (fun r13 M12 H locs hw hP hS => ?_)
              refine lv_iconst (v := (0 : Int32)) hx hb dX9_writesSheet_35 (by decide) ?_
              refine g_Vv (As := [.int r13, .int (0 : Int32)]) (rest := []) S hK hN hP hS (qX9_tries l D E ad L A hF hLm M12 r13 (0 : Int32)  _ hw) (cwV 2 hts gX9_writesSheet_X9_tries rfl rfl rfl eX9_tries ⟨Nat.le_of_ble_eq_true rfl, Nat.le_of_ble_eq_true rfl⟩) (hLm.h (f := 21) (by decide)) (gC21 _ _ _ _) gcl9 rfl rfl rfl hl.1 (Nat.le_of_ble_eq_true rfl) ⟨Nat.zero_le _, Nat.zero_le _⟩ dX9_writesSheet_36 (fun M14 H locs hw hP hS => ?_)
              refine lv_iload_n hx hb dX9_writesSheet_39 rfl (lv_at hl 3 rfl) ?_
              refine lv_if_le (tgt := 65) hx hb dX9_writesSheet_40 (by decide) (fun c15 => ?_) (fun c15 => ?_)
              · have hw := hw.1 c15
                refine lv_iinc (v := (x3_8 + (1 : Int32))) (lv' := [(3, .int (x3_8 + (1 : Int32))), (0, .ref (ad 21 0)), (1, .int x1_3), (2, .int (M2 22 6 x1_3.toNatClampNeg))]) hx hb dX9_writesSheet_65 hl (k := 3) rfl rfl (by decide) rfl (fun ls hl => ?_)
                refine lv_goto (tgt := 19) hx hb dX9_writesSheet_68 (by decide) ?_
                exact ihn6 _ _ _ _ _ hw hP hS (lv_sub hl [1, 2, 3, 0] rfl)
              · have hw := hw.2 c15
                refine lv_aload_n hx hb dX9_writesSheet_43 rfl (lv_at hl 0 rfl) ?_
                refine lv_aload_n hx hb dX9_writesSheet_44 rfl (lv_at hl 0 rfl) ?_
                refine lv_iload_n hx hb dX9_writesSheet_45 rfl (lv_at hl 2 rfl) ?_
                refine lv_iload_n hx hb dX9_writesSheet_46 rfl (lv_at hl 3 rfl) ?_
                refine lv_iconst (v := (1 : Int32)) hx hb dX9_writesSheet_47 (by decide) ?_
                refine lv_isub hx hb dX9_writesSheet_48 ?_
                refine g_Vi (As := [.int (M2 22 6 x1_3.toNatClampNeg), .int (x3_8 - (1 : Int32))]) (rest := [.ref (ad 21 0)]) S hK hN hP hS (qX9_letterAt l D E ad L A hF hLm M14 (M2 22 6 x1_3.toNatClampNeg) (x3_8 - (1 : Int32))  _ hw) (cwV 2 hts gX9_writesSheet_X9_letterAt rfl rfl rfl eX9_letterAt ⟨Nat.le_of_ble_eq_true rfl, Nat.le_of_ble_eq_true rfl⟩) (hLm.h (f := 21) (by decide)) (gC21 _ _ _ _) gcl9 rfl rfl rfl hl.1 (Nat.le_of_ble_eq_true rfl) ⟨Nat.zero_le _, Nat.zero_le _⟩ dX9_writesSheet_49 (fun r17 M16 H locs hw hP hS => ?_)
                refine lv_aload_n hx hb dX9_writesSheet_52 rfl (lv_at hl 0 rfl) ?_
                refine lv_iload_n hx hb dX9_writesSheet_53 rfl (lv_at hl 2 rfl) ?_
                refine lv_iload_n hx hb dX9_writesSheet_54 rfl (lv_at hl 3 rfl) ?_
                refine g_Vi (As := [.int (M2 22 6 x1_3.toNatClampNeg), .int x3_8]) (rest := [.int r17, .ref (ad 21 0)]) S hK hN hP hS (qX9_letterAt l D E ad L A hF hLm M16 (M2 22 6 x1_3.toNatClampNeg) x3_8  _ hw) (cwV 2 hts gX9_writesSheet_X9_letterAt rfl rfl rfl eX9_letterAt ⟨Nat.le_of_ble_eq_true rfl, Nat.le_of_ble_eq_true rfl⟩) (hLm.h (f := 21) (by decide)) (gC21 _ _ _ _) gcl9 rfl rfl rfl hl.1 (Nat.le_of_ble_eq_true rfl) ⟨Nat.zero_le _, Nat.zero_le _⟩ dX9_writesSheet_55 (fun r19 M18 H locs hw hP hS => ?_)
                refine g_Si (As := [.int r17, .int r19]) (rest := [.ref (ad 21 0)]) S hK hN hP hS (qX9_joinOf l D E ad L A hF hLm M18 r17 r19  _ hw) (va_cwS 2 hts gX9_writesSheet_X9_joinOf rfl rfl rfl eX9_joinOf.2 ⟨Nat.le_of_ble_eq_true rfl, Nat.le_of_ble_eq_true rfl⟩) rfl rfl hl.1 (Nat.le_of_ble_eq_true rfl) ⟨Nat.zero_le _, Nat.zero_le _⟩ dX9_writesSheet_58 (fun r21 M20 H locs hw hP hS => ?_)
                refine lv_iconst (v := (0 : Int32)) hx hb dX9_writesSheet_61 (by decide) ?_
                refine g_Vv (As := [.int r21, .int (0 : Int32)]) (rest := []) S hK hN hP hS (qX9_tries l D E ad L A hF hLm M20 r21 (0 : Int32)  _ hw) (cwV 2 hts gX9_writesSheet_X9_tries rfl rfl rfl eX9_tries ⟨Nat.le_of_ble_eq_true rfl, Nat.le_of_ble_eq_true rfl⟩) (hLm.h (f := 21) (by decide)) (gC21 _ _ _ _) gcl9 rfl rfl rfl hl.1 (Nat.le_of_ble_eq_true rfl) ⟨Nat.zero_le _, Nat.zero_le _⟩ dX9_writesSheet_62 (fun M22 H locs hw hP hS => ?_)
                refine lv_iinc (v := (x3_8 + (1 : Int32))) (lv' := [(3, .int (x3_8 + (1 : Int32))), (0, .ref (ad 21 0)), (1, .int x1_3), (2, .int (M2 22 6 x1_3.toNatClampNeg))]) hx hb dX9_writesSheet_65 hl (k := 3) rfl rfl (by decide) rfl (fun ls hl => ?_)
                refine lv_goto (tgt := 19) hx hb dX9_writesSheet_68 (by decide) ?_
                exact ihn6 _ _ _ _ _ hw hP hS (lv_sub hl [1, 2, 3, 0] rfl)
        exact hlX9_writesSheet_L19 n25 _ _ _ _ _ hw hP hS (lv_sub hl [2, 3, 1, 0] rfl)
  exact hlX9_writesSheet_L2 n36 _ _ _ _ _ hw hP hS (lv_sub hl [1, 0] rfl)
abbrev rmX9_type : Room := { frames := 0, cells := 0, slots := 0, locals := 0 }
theorem eX9_type : yX9_type.cls = RX9 ∧ yX9_type.cls ≠ "java/lang/invoke/MethodHandle" ∧ yX9_type.cls ≠ "java/lang/invoke/VarHandle" ∧ (parseMethodDescriptor yX9_type.desc).map (fun d => d.parameters.length) = some 1 := by decide +kernel
theorem iX9_type_X9 : ∀ w ∈ wsX90, w ∈ wsX9_type := fun _ h => List.mem_cons_of_mem _ (List.mem_append_right _ (h))
theorem mX9_type_1 : Cond.fieldLink RX9 113 "PracticeSheetsModel" "textLong" "I" ∈ wsX9_type := List.mem_of_getElem? (i := 1) rfl
theorem mX9_type_2 : Cond.fieldLink RX9 37 "PracticeSheetsModel" "text" "[I" ∈ wsX9_type := List.mem_of_getElem? (i := 2) rfl
set_option maxHeartbeats 4000000 in
set_option maxRecDepth 100000 in
theorem qX9_type (l : Launch) (D : va_G) (E : Nat → ClassId) (ad : Nat → Nat → Nat) (L : List (Nat × Nat)) (A : Nat → Prop) (hF : gF E ad L A) (hLm : gLm L) (M0 : gW) (a1 : Int32)  (K : Int32 → gW → Prop) (hw : wX9_type M0 a1 K) : Met l yX9_type wsX9_type rmX9_type (va_Pc [.ref (ad 21 0), .int a1] (gPre D E ad L M0)) (gQi D E ad L A K) 0 0 A := by
  refine Met.ofW (cc := cX9_type) (maxL := 2) (ret := (some .int)) (by decide) rfl ?_
  intro p e s m args below meth c s₁ B hml hv
  obtain ⟨rfl, hP, hK, hN⟩ := hv
  have hx := B.exec
  have hb := B.bytes
  have hr := B.returns
  have hts := atoms_spec (ws := wsX9_type) B.pre
  have hown : s.vm.findClass RX9 = some m.cls := findClass_of_methodNamed B.named
  have hlocks := B.notSynchronized
  have S : CallFix p m c cX9_type 2 s ([.ref (ad 21 0), .int a1] : List Value).toArray wsX9_type RX9 := ⟨hx, hb, hml, hown, hts⟩
  have hS : va_S A s.heap s.heap [] := va_S.rf
  have hl := lv_entry ([.ref (ad 21 0), .int a1]) (n := 2) (Nat.le_of_ble_eq_true rfl)
  rw [lg_entry_eq]
  generalize (lg_sl ([.ref (ad 21 0), .int a1]) ++ List.replicate (2 - (lg_sl ([.ref (ad 21 0), .int a1])).length) Slot.unset).toArray = ls at hl ⊢
  have hl : lv_has ls 2 [(0, .ref (ad 21 0)), (1, .int a1)] := hl
  refine lv_aload_n hx hb dX9_type_0 rfl (lv_at hl 0 rfl) ?_
  refine g_get (v := .int (M0 21 0 14)) hx hb hts hown hK hP (hLm.h (f := 21) (by decide)) (gC21 _ _ _ _) gcl9 iX9_type_X9 14 (by decide) mX9_type_1 rfl rfl dX9_type_1 ?_
  refine lv_bipush (v := (60 : Int32)) hx hb dX9_type_4 (by decide) ?_
  refine lv_icmp_ne (tgt := 12) hx hb dX9_type_6 (by decide) (fun c1 => ?_) (fun c1 => ?_)
  · have hw := hw.2 c1
    refine lv_aload_n hx hb dX9_type_12 rfl (lv_at hl 0 rfl) ?_
    refine g_get (v := .ref (ad 22 9)) hx hb hts hown hK hP (hLm.h (f := 21) (by decide)) (gC21 _ _ _ _) gcl9 iX9_type_X9 13 (by decide) mX9_type_2 rfl rfl dX9_type_13 ?_
    refine lv_aload_n hx hb dX9_type_16 rfl (lv_at hl 0 rfl) ?_
    refine g_get (v := .int (M0 21 0 14)) hx hb hts hown hK hP (hLm.h (f := 21) (by decide)) (gC21 _ _ _ _) gcl9 iX9_type_X9 14 (by decide) mX9_type_1 rfl rfl dX9_type_17 ?_
    refine lv_iload_n hx hb dX9_type_20 rfl (lv_at hl 1 rfl) ?_
    have hb2 := hw.1
    have hw := hw.2
    refine g_iast (n := 60) hx hb hF hK hP hS (hLm.h (f := 22) (by decide)) (fun _ => rfl) hb2 dX9_type_21 (fun M3 e4 H locs hP hS => ?_)
    have hw := hw M3 e4
    refine lv_aload_n hx hb dX9_type_22 rfl (lv_at hl 0 rfl) ?_
    refine lv_dup hx hb dX9_type_23 rfl ?_
    refine g_get (v := .int (M3 21 0 14)) hx hb hts hown hK hP (hLm.h (f := 21) (by decide)) (gC21 _ _ _ _) gcl9 iX9_type_X9 14 (by decide) mX9_type_1 rfl rfl dX9_type_24 ?_
    refine lv_iconst (v := (1 : Int32)) hx hb dX9_type_27 (by decide) ?_
    refine lv_iadd hx hb dX9_type_28 ?_
    refine g_put hx hb hF hts hown hK hP hS (hLm.h (f := 21) (by decide)) (gC21 _ _ _ _) gcl9 iX9_type_X9 tyX9 tyX9_ok nmX9 14 (by decide) mX9_type_1 rfl rfl rfl rfl (Nat.lt_of_lt_of_eq (by decide : 14 < 19) rfl) rfl dX9_type_29 (fun M5 e6 H locs hP hS => ?_)
    have hw := hw M5 e6
    refine lv_aload_n hx hb dX9_type_32 rfl (lv_at hl 0 rfl) ?_
    refine g_get (v := .int (M5 21 0 14)) hx hb hts hown hK hP (hLm.h (f := 21) (by decide)) (gC21 _ _ _ _) gcl9 iX9_type_X9 14 (by decide) mX9_type_1 rfl rfl dX9_type_33 ?_
    exact g_iret hx hb hr hlocks hw hP hS dX9_type_36
  · have hw := hw.1 c1
    refine lv_bipush (v := (-3 : Int32)) hx hb dX9_type_9 (by decide) ?_
    exact g_iret hx hb hr hlocks hw hP hS dX9_type_11
abbrev rmX9_clearText : Room := { frames := 0, cells := 0, slots := 0, locals := 0 }
theorem eX9_clearText : yX9_clearText.cls = RX9 ∧ yX9_clearText.cls ≠ "java/lang/invoke/MethodHandle" ∧ yX9_clearText.cls ≠ "java/lang/invoke/VarHandle" ∧ (parseMethodDescriptor yX9_clearText.desc).map (fun d => d.parameters.length) = some 0 := by decide +kernel
theorem iX9_clearText_X9 : ∀ w ∈ wsX90, w ∈ wsX9_clearText := fun _ h => List.mem_cons_of_mem _ (List.mem_append_right _ (h))
theorem mX9_clearText_1 : Cond.fieldLink RX9 113 "PracticeSheetsModel" "textLong" "I" ∈ wsX9_clearText := List.mem_of_getElem? (i := 1) rfl
set_option maxHeartbeats 4000000 in
set_option maxRecDepth 100000 in
theorem qX9_clearText (l : Launch) (D : va_G) (E : Nat → ClassId) (ad : Nat → Nat → Nat) (L : List (Nat × Nat)) (A : Nat → Prop) (hF : gF E ad L A) (hLm : gLm L) (M0 : gW)  (K : Int32 → gW → Prop) (hw : wX9_clearText M0 K) : Met l yX9_clearText wsX9_clearText rmX9_clearText (va_Pc [.ref (ad 21 0)] (gPre D E ad L M0)) (gQi D E ad L A K) 0 0 A := by
  refine Met.ofW (cc := cX9_clearText) (maxL := 2) (ret := (some .int)) (by decide) rfl ?_
  intro p e s m args below meth c s₁ B hml hv
  obtain ⟨rfl, hP, hK, hN⟩ := hv
  have hx := B.exec
  have hb := B.bytes
  have hr := B.returns
  have hts := atoms_spec (ws := wsX9_clearText) B.pre
  have hown : s.vm.findClass RX9 = some m.cls := findClass_of_methodNamed B.named
  have hlocks := B.notSynchronized
  have S : CallFix p m c cX9_clearText 2 s ([.ref (ad 21 0)] : List Value).toArray wsX9_clearText RX9 := ⟨hx, hb, hml, hown, hts⟩
  have hS : va_S A s.heap s.heap [] := va_S.rf
  have hl := lv_entry ([.ref (ad 21 0)]) (n := 2) (Nat.le_of_ble_eq_true rfl)
  rw [lg_entry_eq]
  generalize (lg_sl ([.ref (ad 21 0)]) ++ List.replicate (2 - (lg_sl ([.ref (ad 21 0)])).length) Slot.unset).toArray = ls at hl ⊢
  have hl : lv_has ls 2 [(0, .ref (ad 21 0))] := hl
  refine lv_aload_n hx hb dX9_clearText_0 rfl (lv_at hl 0 rfl) ?_
  refine g_get (v := .int (M0 21 0 14)) hx hb hts hown hK hP (hLm.h (f := 21) (by decide)) (gC21 _ _ _ _) gcl9 iX9_clearText_X9 14 (by decide) mX9_clearText_1 rfl rfl dX9_clearText_1 ?_
  refine lv_istore_n (lv' := [(1, .int (M0 21 0 14)), (0, .ref (ad 21 0))]) hx hb dX9_clearText_4 rfl hl (by decide) rfl (fun ls hl => ?_)
  refine lv_aload_n hx hb dX9_clearText_5 rfl (lv_at hl 1 rfl) ?_
  refine lv_iconst (v := (0 : Int32)) hx hb dX9_clearText_6 (by decide) ?_
  refine g_put hx hb hF hts hown hK hP hS (hLm.h (f := 21) (by decide)) (gC21 _ _ _ _) gcl9 iX9_clearText_X9 tyX9 tyX9_ok nmX9 14 (by decide) mX9_clearText_1 rfl rfl rfl rfl (Nat.lt_of_lt_of_eq (by decide : 14 < 19) rfl) rfl dX9_clearText_7 (fun M1 e2 H locs hP hS => ?_)
  have hw := hw M1 e2
  refine lv_iload_n hx hb dX9_clearText_10 rfl (lv_at hl 0 rfl) ?_
  exact g_iret hx hb hr hlocks hw hP hS dX9_clearText_11
abbrev rmX9_isLetter : Room := { frames := 1, cells := 0, slots := 0, locals := 25 }
theorem eX9_isLetter : yX9_isLetter.cls = RX9 ∧ yX9_isLetter.cls ≠ "java/lang/invoke/MethodHandle" ∧ yX9_isLetter.cls ≠ "java/lang/invoke/VarHandle" ∧ (parseMethodDescriptor yX9_isLetter.desc).map (fun d => d.parameters.length) = some 1 := by decide +kernel
theorem iX9_isLetter_X9 : ∀ w ∈ wsX90, w ∈ wsX9_isLetter := fun _ h => List.mem_cons_of_mem _ (List.mem_append_right _ (h))
theorem mX9_isLetter_1 : Cond.fieldLink RX9 113 "PracticeSheetsModel" "textLong" "I" ∈ wsX9_isLetter := List.mem_of_getElem? (i := 1) rfl
theorem mX9_isLetter_2 : Cond.fieldLink RX9 37 "PracticeSheetsModel" "text" "[I" ∈ wsX9_isLetter := List.mem_of_getElem? (i := 2) rfl
theorem mX9_isLetter_3 : Cond.constantLong RX9 116 (97) ∈ wsX9_isLetter := List.mem_of_getElem? (i := 3) rfl
theorem mX9_isLetter_4 : Cond.constantLong RX9 118 (122) ∈ wsX9_isLetter := List.mem_of_getElem? (i := 4) rfl
set_option maxHeartbeats 4000000 in
set_option maxRecDepth 100000 in
theorem qX9_isLetter (l : Launch) (D : va_G) (E : Nat → ClassId) (ad : Nat → Nat → Nat) (L : List (Nat × Nat)) (A : Nat → Prop) (hF : gF E ad L A) (hLm : gLm L) (M0 : gW) (a1 : Int32)  (K : Int32 → gW → Prop) (hw : wX9_isLetter M0 a1 K) : Met l yX9_isLetter wsX9_isLetter rmX9_isLetter (va_Pc [.ref (ad 21 0), .int a1] (gPre D E ad L M0)) (gQi D E ad L A K) 0 0 A := by
  refine Met.ofW (cc := cX9_isLetter) (maxL := 2) (ret := (some .boolean)) (by decide) rfl ?_
  intro p e s m args below meth c s₁ B hml hv
  obtain ⟨rfl, hP, hK, hN⟩ := hv
  have hx := B.exec
  have hb := B.bytes
  have hr := B.returns
  have hts := atoms_spec (ws := wsX9_isLetter) B.pre
  have hown : s.vm.findClass RX9 = some m.cls := findClass_of_methodNamed B.named
  have hlocks := B.notSynchronized
  have S : CallFix p m c cX9_isLetter 2 s ([.ref (ad 21 0), .int a1] : List Value).toArray wsX9_isLetter RX9 := ⟨hx, hb, hml, hown, hts⟩
  have hS : va_S A s.heap s.heap [] := va_S.rf
  have hl := lv_entry ([.ref (ad 21 0), .int a1]) (n := 2) (Nat.le_of_ble_eq_true rfl)
  rw [lg_entry_eq]
  generalize (lg_sl ([.ref (ad 21 0), .int a1]) ++ List.replicate (2 - (lg_sl ([.ref (ad 21 0), .int a1])).length) Slot.unset).toArray = ls at hl ⊢
  have hl : lv_has ls 2 [(0, .ref (ad 21 0)), (1, .int a1)] := hl
  refine lv_iload_n hx hb dX9_isLetter_0 rfl (lv_at hl 1 rfl) ?_
  refine lv_aload_n hx hb dX9_isLetter_1 rfl (lv_at hl 0 rfl) ?_
  refine g_get (v := .int (M0 21 0 14)) hx hb hts hown hK hP (hLm.h (f := 21) (by decide)) (gC21 _ _ _ _) gcl9 iX9_isLetter_X9 14 (by decide) mX9_isLetter_1 rfl rfl dX9_isLetter_2 ?_
  refine lv_icmp_ge (tgt := 31) hx hb dX9_isLetter_5 (by decide) (fun c1 => ?_) (fun c1 => ?_)
  · have hw := hw.1 c1
    refine lv_iconst (v := (0 : Int32)) hx hb dX9_isLetter_31 (by decide) ?_
    exact g_zret hx hb hr hlocks (by decide) hw hP hS dX9_isLetter_32
  · have hw := hw.2 c1
    refine lv_aload_n hx hb dX9_isLetter_8 rfl (lv_at hl 0 rfl) ?_
    refine g_get (v := .ref (ad 22 9)) hx hb hts hown hK hP (hLm.h (f := 21) (by decide)) (gC21 _ _ _ _) gcl9 iX9_isLetter_X9 13 (by decide) mX9_isLetter_2 rfl rfl dX9_isLetter_9 ?_
    refine lv_iload_n hx hb dX9_isLetter_12 rfl (lv_at hl 1 rfl) ?_
    have hb2 := hw.1
    have hw := hw.2
    refine g_iald (n := 60) hx hb hK hP (hLm.h (f := 22) (by decide)) rfl hb2 dX9_isLetter_13 ?_
    refine lv_i2l (v := (M0 22 9 a1.toNatClampNeg).toInt64) hx hb dX9_isLetter_14 rfl ?_
    refine lv_ldc2 (v := (97 : Int64)) hx hb hown (hts _ mX9_isLetter_3) dX9_isLetter_15 ?_
    refine lv_ldc2 (v := (122 : Int64)) hx hb hown (hts _ mX9_isLetter_4) dX9_isLetter_18 ?_
    refine g_Si (As := [.long ((M0 22 9 a1.toNatClampNeg).toInt64), .long (97 : Int64), .long (122 : Int64)]) (rest := []) S hK hN hP hS (qX9_in l D E ad L A hF hLm M0 ((M0 22 9 a1.toNatClampNeg).toInt64) (97 : Int64) (122 : Int64)  _ hw) (va_cwS 3 hts gX9_isLetter_X9_in rfl rfl rfl eX9_in.2 ⟨Nat.le_of_ble_eq_true rfl, Nat.le_of_ble_eq_true rfl⟩) rfl rfl hl.1 (Nat.le_of_ble_eq_true rfl) ⟨Nat.zero_le _, Nat.zero_le _⟩ dX9_isLetter_21 (fun r4 M3 H locs hw hP hS => ?_)
    refine lv_if_eq (tgt := 31) hx hb dX9_isLetter_24 (by decide) (fun c5 => ?_) (fun c5 => ?_)
    · have hw := hw.1 c5
      refine lv_iconst (v := (0 : Int32)) hx hb dX9_isLetter_31 (by decide) ?_
      exact g_zret hx hb hr hlocks (by decide) hw hP hS dX9_isLetter_32
    · have hw := hw.2 c5
      refine lv_iconst (v := (1 : Int32)) hx hb dX9_isLetter_27 (by decide) ?_
      refine lv_goto (tgt := 32) hx hb dX9_isLetter_28 (by decide) ?_
      exact g_zret hx hb hr hlocks (by decide) hw hP hS dX9_isLetter_32
abbrev rmX9_isThere : Room := { frames := 0, cells := 0, slots := 0, locals := 0 }
theorem eX9_isThere : yX9_isThere.cls = RX9 ∧ yX9_isThere.cls ≠ "java/lang/invoke/MethodHandle" ∧ yX9_isThere.cls ≠ "java/lang/invoke/VarHandle" ∧ (parseMethodDescriptor yX9_isThere.desc).map (fun d => d.parameters.length) = some 2 := by decide +kernel
theorem iX9_isThere_X9 : ∀ w ∈ wsX90, w ∈ wsX9_isThere := fun _ h => List.mem_cons_of_mem _ (List.mem_append_right _ (h))
theorem mX9_isThere_1 : Cond.fieldLink RX9 113 "PracticeSheetsModel" "textLong" "I" ∈ wsX9_isThere := List.mem_of_getElem? (i := 1) rfl
theorem mX9_isThere_2 : Cond.fieldLink RX9 37 "PracticeSheetsModel" "text" "[I" ∈ wsX9_isThere := List.mem_of_getElem? (i := 2) rfl
set_option maxHeartbeats 4000000 in
set_option maxRecDepth 100000 in
theorem qX9_isThere (l : Launch) (D : va_G) (E : Nat → ClassId) (ad : Nat → Nat → Nat) (L : List (Nat × Nat)) (A : Nat → Prop) (hF : gF E ad L A) (hLm : gLm L) (M0 : gW) (a1 : Int32) (a2 : Int32)  (K : Int32 → gW → Prop) (hw : wX9_isThere M0 a1 a2 K) : Met l yX9_isThere wsX9_isThere rmX9_isThere (va_Pc [.ref (ad 21 0), .int a1, .int a2] (gPre D E ad L M0)) (gQi D E ad L A K) 0 0 A := by
  refine Met.ofW (cc := cX9_isThere) (maxL := 3) (ret := (some .boolean)) (by decide) rfl ?_
  intro p e s m args below meth c s₁ B hml hv
  obtain ⟨rfl, hP, hK, hN⟩ := hv
  have hx := B.exec
  have hb := B.bytes
  have hr := B.returns
  have hts := atoms_spec (ws := wsX9_isThere) B.pre
  have hown : s.vm.findClass RX9 = some m.cls := findClass_of_methodNamed B.named
  have hlocks := B.notSynchronized
  have S : CallFix p m c cX9_isThere 3 s ([.ref (ad 21 0), .int a1, .int a2] : List Value).toArray wsX9_isThere RX9 := ⟨hx, hb, hml, hown, hts⟩
  have hS : va_S A s.heap s.heap [] := va_S.rf
  have hl := lv_entry ([.ref (ad 21 0), .int a1, .int a2]) (n := 3) (Nat.le_of_ble_eq_true rfl)
  rw [lg_entry_eq]
  generalize (lg_sl ([.ref (ad 21 0), .int a1, .int a2]) ++ List.replicate (3 - (lg_sl ([.ref (ad 21 0), .int a1, .int a2])).length) Slot.unset).toArray = ls at hl ⊢
  have hl : lv_has ls 3 [(0, .ref (ad 21 0)), (1, .int a1), (2, .int a2)] := hl
  refine lv_iload_n hx hb dX9_isThere_0 rfl (lv_at hl 1 rfl) ?_
  refine lv_aload_n hx hb dX9_isThere_1 rfl (lv_at hl 0 rfl) ?_
  refine g_get (v := .int (M0 21 0 14)) hx hb hts hown hK hP (hLm.h (f := 21) (by decide)) (gC21 _ _ _ _) gcl9 iX9_isThere_X9 14 (by decide) mX9_isThere_1 rfl rfl dX9_isThere_2 ?_
  refine lv_icmp_ge (tgt := 22) hx hb dX9_isThere_5 (by decide) (fun c1 => ?_) (fun c1 => ?_)
  · have hw := hw.1 c1
    refine lv_iconst (v := (0 : Int32)) hx hb dX9_isThere_22 (by decide) ?_
    exact g_zret hx hb hr hlocks (by decide) hw hP hS dX9_isThere_23
  · have hw := hw.2 c1
    refine lv_aload_n hx hb dX9_isThere_8 rfl (lv_at hl 0 rfl) ?_
    refine g_get (v := .ref (ad 22 9)) hx hb hts hown hK hP (hLm.h (f := 21) (by decide)) (gC21 _ _ _ _) gcl9 iX9_isThere_X9 13 (by decide) mX9_isThere_2 rfl rfl dX9_isThere_9 ?_
    refine lv_iload_n hx hb dX9_isThere_12 rfl (lv_at hl 1 rfl) ?_
    have hb2 := hw.1
    have hw := hw.2
    refine g_iald (n := 60) hx hb hK hP (hLm.h (f := 22) (by decide)) rfl hb2 dX9_isThere_13 ?_
    refine lv_iload_n hx hb dX9_isThere_14 rfl (lv_at hl 2 rfl) ?_
    refine lv_icmp_ne (tgt := 22) hx hb dX9_isThere_15 (by decide) (fun c3 => ?_) (fun c3 => ?_)
    · have hw := hw.2 c3
      refine lv_iconst (v := (0 : Int32)) hx hb dX9_isThere_22 (by decide) ?_
      exact g_zret hx hb hr hlocks (by decide) hw hP hS dX9_isThere_23
    · have hw := hw.1 c3
      refine lv_iconst (v := (1 : Int32)) hx hb dX9_isThere_18 (by decide) ?_
      refine lv_goto (tgt := 23) hx hb dX9_isThere_19 (by decide) ?_
      exact g_zret hx hb hr hlocks (by decide) hw hP hS dX9_isThere_23
abbrev rmX9_faultOfWriting : Room := { frames := 2, cells := 0, slots := 0, locals := 46 }
theorem eX9_faultOfWriting : yX9_faultOfWriting.cls = RX9 ∧ yX9_faultOfWriting.cls ≠ "java/lang/invoke/MethodHandle" ∧ yX9_faultOfWriting.cls ≠ "java/lang/invoke/VarHandle" ∧ (parseMethodDescriptor yX9_faultOfWriting.desc).map (fun d => d.parameters.length) = some 0 := by decide +kernel
theorem iX9_faultOfWriting_X9 : ∀ w ∈ wsX90, w ∈ wsX9_faultOfWriting := fun _ h => List.mem_cons_of_mem _ (List.mem_append_right _ (h))
theorem mX9_faultOfWriting_1 : Cond.fieldLink RX9 120 "PracticeSheetsModel" "readLong" "I" ∈ wsX9_faultOfWriting := List.mem_of_getElem? (i := 1) rfl
theorem mX9_faultOfWriting_2 : Cond.fieldLink RX9 40 "PracticeSheetsModel" "read" "[I" ∈ wsX9_faultOfWriting := List.mem_of_getElem? (i := 2) rfl
theorem mX9_faultOfWriting_3 : Cond.fieldLink RX9 37 "PracticeSheetsModel" "text" "[I" ∈ wsX9_faultOfWriting := List.mem_of_getElem? (i := 3) rfl
theorem mX9_faultOfWriting_4 : Cond.fieldLink RX9 43 "PracticeSheetsModel" "isMarked" "[I" ∈ wsX9_faultOfWriting := List.mem_of_getElem? (i := 4) rfl
theorem mX9_faultOfWriting_5 : Cond.fieldLink RX9 46 "PracticeSheetsModel" "isJoinMarked" "[I" ∈ wsX9_faultOfWriting := List.mem_of_getElem? (i := 5) rfl
theorem mX9_faultOfWriting_6 : Cond.fieldLink RX9 113 "PracticeSheetsModel" "textLong" "I" ∈ wsX9_faultOfWriting := List.mem_of_getElem? (i := 6) rfl
set_option maxHeartbeats 4000000 in
set_option maxRecDepth 100000 in
theorem qX9_faultOfWriting (l : Launch) (D : va_G) (E : Nat → ClassId) (ad : Nat → Nat → Nat) (L : List (Nat × Nat)) (A : Nat → Prop) (hF : gF E ad L A) (hLm : gLm L) (M0 : gW)  (K : Int32 → gW → Prop) (hw : wX9_faultOfWriting M0 K) : Met l yX9_faultOfWriting wsX9_faultOfWriting rmX9_faultOfWriting (va_Pc [.ref (ad 21 0)] (gPre D E ad L M0)) (gQi D E ad L A K) 0 0 A := by
  refine Met.ofW (cc := cX9_faultOfWriting) (maxL := 4) (ret := (some .int)) (by decide) rfl ?_
  intro p e s m args below meth c s₁ B hml hv
  obtain ⟨rfl, hP, hK, hN⟩ := hv
  have hx := B.exec
  have hb := B.bytes
  have hr := B.returns
  have hts := atoms_spec (ws := wsX9_faultOfWriting) B.pre
  have hown : s.vm.findClass RX9 = some m.cls := findClass_of_methodNamed B.named
  have hlocks := B.notSynchronized
  have S : CallFix p m c cX9_faultOfWriting 4 s ([.ref (ad 21 0)] : List Value).toArray wsX9_faultOfWriting RX9 := ⟨hx, hb, hml, hown, hts⟩
  have hS : va_S A s.heap s.heap [] := va_S.rf
  have hl := lv_entry ([.ref (ad 21 0)]) (n := 4) (Nat.le_of_ble_eq_true rfl)
  rw [lg_entry_eq]
  generalize (lg_sl ([.ref (ad 21 0)]) ++ List.replicate (4 - (lg_sl ([.ref (ad 21 0)])).length) Slot.unset).toArray = ls at hl ⊢
  have hl : lv_has ls 4 [(0, .ref (ad 21 0))] := hl
  refine lv_aload_n hx hb dX9_faultOfWriting_0 rfl (lv_at hl 0 rfl) ?_
  refine lv_iconst (v := (0 : Int32)) hx hb dX9_faultOfWriting_1 (by decide) ?_
  refine g_put hx hb hF hts hown hK hP hS (hLm.h (f := 21) (by decide)) (gC21 _ _ _ _) gcl9 iX9_faultOfWriting_X9 tyX9 tyX9_ok nmX9 18 (by decide) mX9_faultOfWriting_1 rfl rfl rfl rfl (Nat.lt_of_lt_of_eq (by decide : 18 < 19) rfl) rfl dX9_faultOfWriting_2 (fun M1 e2 H locs hP hS => ?_)
  have hw := hw M1 e2
  refine lv_iconst (v := (0 : Int32)) hx hb dX9_faultOfWriting_5 (by decide) ?_
  refine lv_istore_n (lv' := [(1, .int (0 : Int32)), (0, .ref (ad 21 0))]) hx hb dX9_faultOfWriting_6 rfl hl (by decide) rfl (fun ls hl => ?_)
  refine lv_iconst (v := (1 : Int32)) hx hb dX9_faultOfWriting_7 (by decide) ?_
  refine lv_istore_n (lv' := [(2, .int (1 : Int32)), (1, .int (0 : Int32)), (0, .ref (ad 21 0))]) hx hb dX9_faultOfWriting_8 rfl hl (by decide) rfl (fun ls hl => ?_)
  obtain ⟨n99, hw⟩ := hw
  have hxX9_faultOfWriting_L9_0 : ∀ (M95 : gW) (x1_96 : Int32) (x2_97 : Int32) (H : Heap) (locs : List Loc) (ls : Array Slot), ((x1_96 = (M95 21 0 14) → (K (-5 : Int32) M95)) ∧ (¬ (x1_96 = (M95 21 0 14)) → (K x1_96 M95))) → va_P D vwCl (gL E ad L M95) H → va_S A s.heap H locs → lv_has ls 4 [(0, .ref (ad 21 0)), (1, .int x1_96), (2, .int x2_97)] → W p l e (headSpec wsX9_faultOfWriting rmX9_faultOfWriting).room s m (([.ref (ad 21 0)] : List Value).toArray) below meth c H locs 0 0 (MQ below (gQi D E ad L A K) ([.ref (ad 21 0)] : List Value).toArray s 0 0 A) (F0 m 177 ls []) := by
    intro M95 x1_96 x2_97 H locs ls hw hP hS hl
    refine lv_iload_n hx hb dX9_faultOfWriting_177 rfl (lv_at hl 1 rfl) ?_
    refine lv_aload_n hx hb dX9_faultOfWriting_178 rfl (lv_at hl 0 rfl) ?_
    refine g_get (v := .int (M95 21 0 14)) hx hb hts hown hK hP (hLm.h (f := 21) (by decide)) (gC21 _ _ _ _) gcl9 iX9_faultOfWriting_X9 14 (by decide) mX9_faultOfWriting_6 rfl rfl dX9_faultOfWriting_179 ?_
    refine lv_icmp_ne (tgt := 190) hx hb dX9_faultOfWriting_182 (by decide) (fun c98 => ?_) (fun c98 => ?_)
    · have hw := hw.2 c98
      refine lv_iload_n hx hb dX9_faultOfWriting_190 rfl (lv_at hl 1 rfl) ?_
      exact g_iret hx hb hr hlocks hw hP hS dX9_faultOfWriting_191
    · have hw := hw.1 c98
      refine lv_bipush (v := (-5 : Int32)) hx hb dX9_faultOfWriting_185 (by decide) ?_
      refine lv_goto (tgt := 191) hx hb dX9_faultOfWriting_187 (by decide) ?_
      exact g_iret hx hb hr hlocks hw hP hS dX9_faultOfWriting_191
  have hlX9_faultOfWriting_L9 : ∀ (n3 : Nat) (M4 : gW) (x1_5 : Int32) (x2_6 : Int32) (H : Heap) (locs : List Loc) (ls : Array Slot), wX9_faultOfWriting_L9 K (fun M95 x1_96 x2_97 => ((x1_96 = (M95 21 0 14) → (K (-5 : Int32) M95)) ∧ (¬ (x1_96 = (M95 21 0 14)) → (K x1_96 M95)))) n3 M4 x1_5 x2_6 → va_P D vwCl (gL E ad L M4) H → va_S A s.heap H locs → lv_has ls 4 [(0, .ref (ad 21 0)), (1, .int x1_5), (2, .int x2_6)] → W p l e (headSpec wsX9_faultOfWriting rmX9_faultOfWriting).room s m (([.ref (ad 21 0)] : List Value).toArray) below meth c H locs 0 0 (MQ below (gQi D E ad L A K) ([.ref (ad 21 0)] : List Value).toArray s 0 0 A) (F0 m 9 ls []) := by
    intro n3
    induction n3 with
    | zero => intro M4 x1_5 x2_6 H locs ls hw; exact False.elim hw
    | succ n3 ihn3 =>
      intro M4 x1_5 x2_6 H locs ls hw hP hS hl
      refine lv_iload_n hx hb dX9_faultOfWriting_9 rfl (lv_at hl 2 rfl) ?_
      refine lv_if_eq (tgt := 177) hx hb dX9_faultOfWriting_10 (by decide) (fun c7 => ?_) (fun c7 => ?_)
      · have hw := hw.1 c7
        exact hxX9_faultOfWriting_L9_0 _ _ _ _ _ _ hw hP hS (lv_sub hl [0, 1, 2] rfl)
      · have hw := hw.2 c7
        refine lv_aload_n hx hb dX9_faultOfWriting_13 rfl (lv_at hl 0 rfl) ?_
        refine lv_iload_n hx hb dX9_faultOfWriting_14 rfl (lv_at hl 1 rfl) ?_
        refine g_Vi (As := [.int x1_5]) (rest := []) S hK hN hP hS (qX9_isLetter l D E ad L A hF hLm M4 x1_5  _ hw) (cwV 1 hts gX9_faultOfWriting_X9_isLetter rfl rfl rfl eX9_isLetter ⟨Nat.le_of_ble_eq_true rfl, Nat.le_of_ble_eq_true rfl⟩) (hLm.h (f := 21) (by decide)) (gC21 _ _ _ _) gcl9 rfl rfl rfl hl.1 (Nat.le_of_ble_eq_true rfl) ⟨Nat.zero_le _, Nat.zero_le _⟩ dX9_faultOfWriting_15 (fun r9 M8 H locs hw hP hS => ?_)
        refine lv_if_eq (tgt := 30) hx hb dX9_faultOfWriting_18 (by decide) (fun c10 => ?_) (fun c10 => ?_)
        · have hw := hw.1 c10
          refine lv_iload_n hx hb dX9_faultOfWriting_30 rfl (lv_at hl 1 rfl) ?_
          exact g_iret hx hb hr hlocks hw hP hS dX9_faultOfWriting_31
        · have hw := hw.2 c10
          refine lv_aload_n hx hb dX9_faultOfWriting_21 rfl (lv_at hl 0 rfl) ?_
          refine g_get (v := .int (M8 21 0 18)) hx hb hts hown hK hP (hLm.h (f := 21) (by decide)) (gC21 _ _ _ _) gcl9 iX9_faultOfWriting_X9 18 (by decide) mX9_faultOfWriting_1 rfl rfl dX9_faultOfWriting_22 ?_
          refine lv_bipush (v := (15 : Int32)) hx hb dX9_faultOfWriting_25 (by decide) ?_
          refine lv_icmp_ne (tgt := 32) hx hb dX9_faultOfWriting_27 (by decide) (fun c11 => ?_) (fun c11 => ?_)
          · have hw := hw.2 c11
            refine lv_aload_n hx hb dX9_faultOfWriting_32 rfl (lv_at hl 0 rfl) ?_
            refine g_get (v := .ref (ad 22 10)) hx hb hts hown hK hP (hLm.h (f := 21) (by decide)) (gC21 _ _ _ _) gcl9 iX9_faultOfWriting_X9 15 (by decide) mX9_faultOfWriting_2 rfl rfl dX9_faultOfWriting_33 ?_
            refine lv_aload_n hx hb dX9_faultOfWriting_36 rfl (lv_at hl 0 rfl) ?_
            refine g_get (v := .int (M8 21 0 18)) hx hb hts hown hK hP (hLm.h (f := 21) (by decide)) (gC21 _ _ _ _) gcl9 iX9_faultOfWriting_X9 18 (by decide) mX9_faultOfWriting_1 rfl rfl dX9_faultOfWriting_37 ?_
            refine lv_aload_n hx hb dX9_faultOfWriting_40 rfl (lv_at hl 0 rfl) ?_
            refine g_get (v := .ref (ad 22 9)) hx hb hts hown hK hP (hLm.h (f := 21) (by decide)) (gC21 _ _ _ _) gcl9 iX9_faultOfWriting_X9 13 (by decide) mX9_faultOfWriting_3 rfl rfl dX9_faultOfWriting_41 ?_
            refine lv_iload_n hx hb dX9_faultOfWriting_44 rfl (lv_at hl 1 rfl) ?_
            have hb12 := hw.1
            have hw := hw.2
            refine g_iald (n := 60) hx hb hK hP (hLm.h (f := 22) (by decide)) rfl hb12 dX9_faultOfWriting_45 ?_
            refine lv_bipush (v := (97 : Int32)) hx hb dX9_faultOfWriting_46 (by decide) ?_
            refine lv_isub hx hb dX9_faultOfWriting_48 ?_
            have hb13 := hw.1
            have hw := hw.2
            refine g_iast (n := 15) hx hb hF hK hP hS (hLm.h (f := 22) (by decide)) (fun _ => rfl) hb13 dX9_faultOfWriting_49 (fun M14 e15 H locs hP hS => ?_)
            have hw := hw M14 e15
            refine lv_iinc (v := (x1_5 + (1 : Int32))) (lv' := [(1, .int (x1_5 + (1 : Int32))), (0, .ref (ad 21 0)), (2, .int x2_6)]) hx hb dX9_faultOfWriting_50 hl (k := 1) rfl rfl (by decide) rfl (fun ls hl => ?_)
            refine lv_aload_n hx hb dX9_faultOfWriting_53 rfl (lv_at hl 1 rfl) ?_
            refine g_get (v := .ref (ad 22 11)) hx hb hts hown hK hP (hLm.h (f := 21) (by decide)) (gC21 _ _ _ _) gcl9 iX9_faultOfWriting_X9 16 (by decide) mX9_faultOfWriting_4 rfl rfl dX9_faultOfWriting_54 ?_
            refine lv_aload_n hx hb dX9_faultOfWriting_57 rfl (lv_at hl 1 rfl) ?_
            refine g_get (v := .int (M14 21 0 18)) hx hb hts hown hK hP (hLm.h (f := 21) (by decide)) (gC21 _ _ _ _) gcl9 iX9_faultOfWriting_X9 18 (by decide) mX9_faultOfWriting_1 rfl rfl dX9_faultOfWriting_58 ?_
            refine lv_aload_n hx hb dX9_faultOfWriting_61 rfl (lv_at hl 1 rfl) ?_
            refine lv_iload_n hx hb dX9_faultOfWriting_62 rfl (lv_at hl 0 rfl) ?_
            refine lv_bipush (v := (33 : Int32)) hx hb dX9_faultOfWriting_63 (by decide) ?_
            refine g_Vi (As := [.int (x1_5 + (1 : Int32)), .int (33 : Int32)]) (rest := [.int (M14 21 0 18), .ref (ad 22 11)]) S hK hN hP hS (qX9_isThere l D E ad L A hF hLm M14 (x1_5 + (1 : Int32)) (33 : Int32)  _ hw) (cwV 2 hts gX9_faultOfWriting_X9_isThere rfl rfl rfl eX9_isThere ⟨Nat.le_of_ble_eq_true rfl, Nat.le_of_ble_eq_true rfl⟩) (hLm.h (f := 21) (by decide)) (gC21 _ _ _ _) gcl9 rfl rfl rfl hl.1 (Nat.le_of_ble_eq_true rfl) ⟨Nat.zero_le _, Nat.zero_le _⟩ dX9_faultOfWriting_65 (fun r17 M16 H locs hw hP hS => ?_)
            refine lv_if_eq (tgt := 75) hx hb dX9_faultOfWriting_68 (by decide) (fun c18 => ?_) (fun c18 => ?_)
            · have hw := hw.1 c18
              refine lv_iconst (v := (0 : Int32)) hx hb dX9_faultOfWriting_75 (by decide) ?_
              have hb19 := hw.1
              have hw := hw.2
              refine g_iast (n := 15) hx hb hF hK hP hS (hLm.h (f := 22) (by decide)) (fun _ => rfl) hb19 dX9_faultOfWriting_76 (fun M20 e21 H locs hP hS => ?_)
              have hw := hw M20 e21
              refine lv_iload_n hx hb dX9_faultOfWriting_77 rfl (lv_at hl 0 rfl) ?_
              refine lv_aload_n hx hb dX9_faultOfWriting_78 rfl (lv_at hl 1 rfl) ?_
              refine g_get (v := .ref (ad 22 11)) hx hb hts hown hK hP (hLm.h (f := 21) (by decide)) (gC21 _ _ _ _) gcl9 iX9_faultOfWriting_X9 16 (by decide) mX9_faultOfWriting_4 rfl rfl dX9_faultOfWriting_79 ?_
              refine lv_aload_n hx hb dX9_faultOfWriting_82 rfl (lv_at hl 1 rfl) ?_
              refine g_get (v := .int (M20 21 0 18)) hx hb hts hown hK hP (hLm.h (f := 21) (by decide)) (gC21 _ _ _ _) gcl9 iX9_faultOfWriting_X9 18 (by decide) mX9_faultOfWriting_1 rfl rfl dX9_faultOfWriting_83 ?_
              have hb22 := hw.1
              have hw := hw.2
              refine g_iald (n := 15) hx hb hK hP (hLm.h (f := 22) (by decide)) rfl hb22 dX9_faultOfWriting_86 ?_
              refine lv_iadd hx hb dX9_faultOfWriting_87 ?_
              refine lv_istore_n (lv' := [(1, .int ((x1_5 + (1 : Int32)) + (M20 22 11 (M20 21 0 18).toNatClampNeg))), (0, .ref (ad 21 0)), (2, .int x2_6)]) hx hb dX9_faultOfWriting_88 rfl hl (by decide) rfl (fun ls hl => ?_)
              refine lv_aload_n hx hb dX9_faultOfWriting_89 rfl (lv_at hl 1 rfl) ?_
              refine lv_iload_n hx hb dX9_faultOfWriting_90 rfl (lv_at hl 0 rfl) ?_
              refine lv_bipush (v := (45 : Int32)) hx hb dX9_faultOfWriting_91 (by decide) ?_
              refine g_Vi (As := [.int ((x1_5 + (1 : Int32)) + (M20 22 11 (M20 21 0 18).toNatClampNeg)), .int (45 : Int32)]) (rest := []) S hK hN hP hS (qX9_isThere l D E ad L A hF hLm M20 ((x1_5 + (1 : Int32)) + (M20 22 11 (M20 21 0 18).toNatClampNeg)) (45 : Int32)  _ hw) (cwV 2 hts gX9_faultOfWriting_X9_isThere rfl rfl rfl eX9_isThere ⟨Nat.le_of_ble_eq_true rfl, Nat.le_of_ble_eq_true rfl⟩) (hLm.h (f := 21) (by decide)) (gC21 _ _ _ _) gcl9 rfl rfl rfl hl.1 (Nat.le_of_ble_eq_true rfl) ⟨Nat.zero_le _, Nat.zero_le _⟩ dX9_faultOfWriting_93 (fun r24 M23 H locs hw hP hS => ?_)
              refine lv_if_eq (tgt := 114) hx hb dX9_faultOfWriting_96 (by decide) (fun c25 => ?_) (fun c25 => ?_)
              · have hw := hw.1 c25
                refine lv_iconst (v := (0 : Int32)) hx hb dX9_faultOfWriting_114 (by decide) ?_
                refine lv_istore_n (lv' := [(3, .int (0 : Int32)), (1, .int ((x1_5 + (1 : Int32)) + (M20 22 11 (M20 21 0 18).toNatClampNeg))), (0, .ref (ad 21 0)), (2, .int x2_6)]) hx hb dX9_faultOfWriting_115 rfl hl (by decide) rfl (fun ls hl => ?_)
                refine lv_aload_n hx hb dX9_faultOfWriting_116 rfl (lv_at hl 2 rfl) ?_
                refine g_get (v := .ref (ad 22 12)) hx hb hts hown hK hP (hLm.h (f := 21) (by decide)) (gC21 _ _ _ _) gcl9 iX9_faultOfWriting_X9 17 (by decide) mX9_faultOfWriting_5 rfl rfl dX9_faultOfWriting_117 ?_
                refine lv_aload_n hx hb dX9_faultOfWriting_120 rfl (lv_at hl 2 rfl) ?_
                refine g_get (v := .int (M23 21 0 18)) hx hb hts hown hK hP (hLm.h (f := 21) (by decide)) (gC21 _ _ _ _) gcl9 iX9_faultOfWriting_X9 18 (by decide) mX9_faultOfWriting_1 rfl rfl dX9_faultOfWriting_121 ?_
                refine lv_iload_n hx hb dX9_faultOfWriting_124 rfl (lv_at hl 0 rfl) ?_
                refine lv_if_eq (tgt := 132) hx hb dX9_faultOfWriting_125 (by decide) (fun _ => ?_) (fun c => absurd (by decide) c)
                refine lv_iconst (v := (0 : Int32)) hx hb dX9_faultOfWriting_132 (by decide) ?_
                have hb26 := hw.1
                have hw := hw.2
                refine g_iast (n := 15) hx hb hF hK hP hS (hLm.h (f := 22) (by decide)) (fun _ => rfl) hb26 dX9_faultOfWriting_133 (fun M27 e28 H locs hP hS => ?_)
                have hw := hw M27 e28
                refine lv_iload_n hx hb dX9_faultOfWriting_134 rfl (lv_at hl 1 rfl) ?_
                refine lv_aload_n hx hb dX9_faultOfWriting_135 rfl (lv_at hl 2 rfl) ?_
                refine g_get (v := .ref (ad 22 12)) hx hb hts hown hK hP (hLm.h (f := 21) (by decide)) (gC21 _ _ _ _) gcl9 iX9_faultOfWriting_X9 17 (by decide) mX9_faultOfWriting_5 rfl rfl dX9_faultOfWriting_136 ?_
                refine lv_aload_n hx hb dX9_faultOfWriting_139 rfl (lv_at hl 2 rfl) ?_
                refine g_get (v := .int (M27 21 0 18)) hx hb hts hown hK hP (hLm.h (f := 21) (by decide)) (gC21 _ _ _ _) gcl9 iX9_faultOfWriting_X9 18 (by decide) mX9_faultOfWriting_1 rfl rfl dX9_faultOfWriting_140 ?_
                have hb29 := hw.1
                have hw := hw.2
                refine g_iald (n := 15) hx hb hK hP (hLm.h (f := 22) (by decide)) rfl hb29 dX9_faultOfWriting_143 ?_
                refine lv_iadd hx hb dX9_faultOfWriting_144 ?_
                refine lv_topi (fun y30 e31 => ?_)
                have hw := hw y30 e31
                refine lv_istore_n (lv' := [(1, .int y30), (3, .int (0 : Int32)), (0, .ref (ad 21 0)), (2, .int x2_6)]) hx hb dX9_faultOfWriting_145 rfl hl (by decide) rfl (fun ls hl => ?_)
                refine lv_aload_n hx hb dX9_faultOfWriting_146 rfl (lv_at hl 2 rfl) ?_
                refine lv_dup hx hb dX9_faultOfWriting_147 rfl ?_
                refine g_get (v := .int (M27 21 0 18)) hx hb hts hown hK hP (hLm.h (f := 21) (by decide)) (gC21 _ _ _ _) gcl9 iX9_faultOfWriting_X9 18 (by decide) mX9_faultOfWriting_1 rfl rfl dX9_faultOfWriting_148 ?_
                refine lv_iconst (v := (1 : Int32)) hx hb dX9_faultOfWriting_151 (by decide) ?_
                refine lv_iadd hx hb dX9_faultOfWriting_152 ?_
                refine g_put hx hb hF hts hown hK hP hS (hLm.h (f := 21) (by decide)) (gC21 _ _ _ _) gcl9 iX9_faultOfWriting_X9 tyX9 tyX9_ok nmX9 18 (by decide) mX9_faultOfWriting_1 rfl rfl rfl rfl (Nat.lt_of_lt_of_eq (by decide : 18 < 19) rfl) rfl dX9_faultOfWriting_153 (fun M32 e33 H locs hP hS => ?_)
                have hw := hw M32 e33
                refine lv_iload_n hx hb dX9_faultOfWriting_156 rfl (lv_at hl 1 rfl) ?_
                refine lv_if_ne (tgt := 168) hx hb dX9_faultOfWriting_157 (by decide) (fun c => absurd (by decide) c) (fun _ => ?_)
                refine lv_aload_n hx hb dX9_faultOfWriting_160 rfl (lv_at hl 2 rfl) ?_
                refine lv_iload_n hx hb dX9_faultOfWriting_161 rfl (lv_at hl 0 rfl) ?_
                refine g_Vi (As := [.int y30]) (rest := []) S hK hN hP hS (qX9_isLetter l D E ad L A hF hLm M32 y30  _ hw) (cwV 1 hts gX9_faultOfWriting_X9_isLetter rfl rfl rfl eX9_isLetter ⟨Nat.le_of_ble_eq_true rfl, Nat.le_of_ble_eq_true rfl⟩) (hLm.h (f := 21) (by decide)) (gC21 _ _ _ _) gcl9 rfl rfl rfl hl.1 (Nat.le_of_ble_eq_true rfl) ⟨Nat.zero_le _, Nat.zero_le _⟩ dX9_faultOfWriting_162 (fun r35 M34 H locs hw hP hS => ?_)
                refine lv_if_eq (tgt := 172) hx hb dX9_faultOfWriting_165 (by decide) (fun c36 => ?_) (fun c36 => ?_)
                · have hw := hw.1 c36
                  refine lv_iconst (v := (0 : Int32)) hx hb dX9_faultOfWriting_172 (by decide) ?_
                  refine lv_istore_n (lv' := [(2, .int (0 : Int32)), (1, .int y30), (3, .int (0 : Int32)), (0, .ref (ad 21 0))]) hx hb dX9_faultOfWriting_173 rfl hl (by decide) rfl (fun ls hl => ?_)
                  refine lv_goto (tgt := 9) hx hb dX9_faultOfWriting_174 (by decide) ?_
                  exact ihn3 _ _ _ _ _ _ hw hP hS (lv_sub hl [3, 1, 0] rfl)
                · have hw := hw.2 c36
                  refine lv_iconst (v := (1 : Int32)) hx hb dX9_faultOfWriting_168 (by decide) ?_
                  refine lv_goto (tgt := 173) hx hb dX9_faultOfWriting_169 (by decide) ?_
                  refine lv_istore_n (lv' := [(2, .int (1 : Int32)), (1, .int y30), (3, .int (0 : Int32)), (0, .ref (ad 21 0))]) hx hb dX9_faultOfWriting_173 rfl hl (by decide) rfl (fun ls hl => ?_)
                  refine lv_goto (tgt := 9) hx hb dX9_faultOfWriting_174 (by decide) ?_
                  exact ihn3 _ _ _ _ _ _ hw hP hS (lv_sub hl [3, 1, 0] rfl)
              · have hw := hw.2 c25
                refine lv_aload_n hx hb dX9_faultOfWriting_99 rfl (lv_at hl 1 rfl) ?_
                refine g_get (v := .int (M23 21 0 18)) hx hb hts hown hK hP (hLm.h (f := 21) (by decide)) (gC21 _ _ _ _) gcl9 iX9_faultOfWriting_X9 18 (by decide) mX9_faultOfWriting_1 rfl rfl dX9_faultOfWriting_100 ?_
                refine lv_iconst (v := (1 : Int32)) hx hb dX9_faultOfWriting_103 (by decide) ?_
                refine lv_iadd hx hb dX9_faultOfWriting_104 ?_
                refine lv_bipush (v := (15 : Int32)) hx hb dX9_faultOfWriting_105 (by decide) ?_
                refine lv_icmp_ge (tgt := 114) hx hb dX9_faultOfWriting_107 (by decide) (fun c37 => ?_) (fun c37 => ?_)
                · have hw := hw.1 c37
                  refine lv_iconst (v := (0 : Int32)) hx hb dX9_faultOfWriting_114 (by decide) ?_
                  refine lv_istore_n (lv' := [(3, .int (0 : Int32)), (1, .int ((x1_5 + (1 : Int32)) + (M20 22 11 (M20 21 0 18).toNatClampNeg))), (0, .ref (ad 21 0)), (2, .int x2_6)]) hx hb dX9_faultOfWriting_115 rfl hl (by decide) rfl (fun ls hl => ?_)
                  refine lv_aload_n hx hb dX9_faultOfWriting_116 rfl (lv_at hl 2 rfl) ?_
                  refine g_get (v := .ref (ad 22 12)) hx hb hts hown hK hP (hLm.h (f := 21) (by decide)) (gC21 _ _ _ _) gcl9 iX9_faultOfWriting_X9 17 (by decide) mX9_faultOfWriting_5 rfl rfl dX9_faultOfWriting_117 ?_
                  refine lv_aload_n hx hb dX9_faultOfWriting_120 rfl (lv_at hl 2 rfl) ?_
                  refine g_get (v := .int (M23 21 0 18)) hx hb hts hown hK hP (hLm.h (f := 21) (by decide)) (gC21 _ _ _ _) gcl9 iX9_faultOfWriting_X9 18 (by decide) mX9_faultOfWriting_1 rfl rfl dX9_faultOfWriting_121 ?_
                  refine lv_iload_n hx hb dX9_faultOfWriting_124 rfl (lv_at hl 0 rfl) ?_
                  refine lv_if_eq (tgt := 132) hx hb dX9_faultOfWriting_125 (by decide) (fun _ => ?_) (fun c => absurd (by decide) c)
                  refine lv_iconst (v := (0 : Int32)) hx hb dX9_faultOfWriting_132 (by decide) ?_
                  have hb38 := hw.1
                  have hw := hw.2
                  refine g_iast (n := 15) hx hb hF hK hP hS (hLm.h (f := 22) (by decide)) (fun _ => rfl) hb38 dX9_faultOfWriting_133 (fun M39 e40 H locs hP hS => ?_)
                  have hw := hw M39 e40
                  refine lv_iload_n hx hb dX9_faultOfWriting_134 rfl (lv_at hl 1 rfl) ?_
                  refine lv_aload_n hx hb dX9_faultOfWriting_135 rfl (lv_at hl 2 rfl) ?_
                  refine g_get (v := .ref (ad 22 12)) hx hb hts hown hK hP (hLm.h (f := 21) (by decide)) (gC21 _ _ _ _) gcl9 iX9_faultOfWriting_X9 17 (by decide) mX9_faultOfWriting_5 rfl rfl dX9_faultOfWriting_136 ?_
                  refine lv_aload_n hx hb dX9_faultOfWriting_139 rfl (lv_at hl 2 rfl) ?_
                  refine g_get (v := .int (M39 21 0 18)) hx hb hts hown hK hP (hLm.h (f := 21) (by decide)) (gC21 _ _ _ _) gcl9 iX9_faultOfWriting_X9 18 (by decide) mX9_faultOfWriting_1 rfl rfl dX9_faultOfWriting_140 ?_
                  have hb41 := hw.1
                  have hw := hw.2
                  refine g_iald (n := 15) hx hb hK hP (hLm.h (f := 22) (by decide)) rfl hb41 dX9_faultOfWriting_143 ?_
                  refine lv_iadd hx hb dX9_faultOfWriting_144 ?_
                  refine lv_topi (fun y42 e43 => ?_)
                  have hw := hw y42 e43
                  refine lv_istore_n (lv' := [(1, .int y42), (3, .int (0 : Int32)), (0, .ref (ad 21 0)), (2, .int x2_6)]) hx hb dX9_faultOfWriting_145 rfl hl (by decide) rfl (fun ls hl => ?_)
                  refine lv_aload_n hx hb dX9_faultOfWriting_146 rfl (lv_at hl 2 rfl) ?_
                  refine lv_dup hx hb dX9_faultOfWriting_147 rfl ?_
                  refine g_get (v := .int (M39 21 0 18)) hx hb hts hown hK hP (hLm.h (f := 21) (by decide)) (gC21 _ _ _ _) gcl9 iX9_faultOfWriting_X9 18 (by decide) mX9_faultOfWriting_1 rfl rfl dX9_faultOfWriting_148 ?_
                  refine lv_iconst (v := (1 : Int32)) hx hb dX9_faultOfWriting_151 (by decide) ?_
                  refine lv_iadd hx hb dX9_faultOfWriting_152 ?_
                  refine g_put hx hb hF hts hown hK hP hS (hLm.h (f := 21) (by decide)) (gC21 _ _ _ _) gcl9 iX9_faultOfWriting_X9 tyX9 tyX9_ok nmX9 18 (by decide) mX9_faultOfWriting_1 rfl rfl rfl rfl (Nat.lt_of_lt_of_eq (by decide : 18 < 19) rfl) rfl dX9_faultOfWriting_153 (fun M44 e45 H locs hP hS => ?_)
                  have hw := hw M44 e45
                  refine lv_iload_n hx hb dX9_faultOfWriting_156 rfl (lv_at hl 1 rfl) ?_
                  refine lv_if_ne (tgt := 168) hx hb dX9_faultOfWriting_157 (by decide) (fun c => absurd (by decide) c) (fun _ => ?_)
                  refine lv_aload_n hx hb dX9_faultOfWriting_160 rfl (lv_at hl 2 rfl) ?_
                  refine lv_iload_n hx hb dX9_faultOfWriting_161 rfl (lv_at hl 0 rfl) ?_
                  refine g_Vi (As := [.int y42]) (rest := []) S hK hN hP hS (qX9_isLetter l D E ad L A hF hLm M44 y42  _ hw) (cwV 1 hts gX9_faultOfWriting_X9_isLetter rfl rfl rfl eX9_isLetter ⟨Nat.le_of_ble_eq_true rfl, Nat.le_of_ble_eq_true rfl⟩) (hLm.h (f := 21) (by decide)) (gC21 _ _ _ _) gcl9 rfl rfl rfl hl.1 (Nat.le_of_ble_eq_true rfl) ⟨Nat.zero_le _, Nat.zero_le _⟩ dX9_faultOfWriting_162 (fun r47 M46 H locs hw hP hS => ?_)
                  refine lv_if_eq (tgt := 172) hx hb dX9_faultOfWriting_165 (by decide) (fun c48 => ?_) (fun c48 => ?_)
                  · have hw := hw.1 c48
                    refine lv_iconst (v := (0 : Int32)) hx hb dX9_faultOfWriting_172 (by decide) ?_
                    refine lv_istore_n (lv' := [(2, .int (0 : Int32)), (1, .int y42), (3, .int (0 : Int32)), (0, .ref (ad 21 0))]) hx hb dX9_faultOfWriting_173 rfl hl (by decide) rfl (fun ls hl => ?_)
                    refine lv_goto (tgt := 9) hx hb dX9_faultOfWriting_174 (by decide) ?_
                    exact ihn3 _ _ _ _ _ _ hw hP hS (lv_sub hl [3, 1, 0] rfl)
                  · have hw := hw.2 c48
                    refine lv_iconst (v := (1 : Int32)) hx hb dX9_faultOfWriting_168 (by decide) ?_
                    refine lv_goto (tgt := 173) hx hb dX9_faultOfWriting_169 (by decide) ?_
                    refine lv_istore_n (lv' := [(2, .int (1 : Int32)), (1, .int y42), (3, .int (0 : Int32)), (0, .ref (ad 21 0))]) hx hb dX9_faultOfWriting_173 rfl hl (by decide) rfl (fun ls hl => ?_)
                    refine lv_goto (tgt := 9) hx hb dX9_faultOfWriting_174 (by decide) ?_
                    exact ihn3 _ _ _ _ _ _ hw hP hS (lv_sub hl [3, 1, 0] rfl)
                · have hw := hw.2 c37
                  refine lv_iconst (v := (1 : Int32)) hx hb dX9_faultOfWriting_110 (by decide) ?_
                  refine lv_goto (tgt := 115) hx hb dX9_faultOfWriting_111 (by decide) ?_
                  refine lv_istore_n (lv' := [(3, .int (1 : Int32)), (1, .int ((x1_5 + (1 : Int32)) + (M20 22 11 (M20 21 0 18).toNatClampNeg))), (0, .ref (ad 21 0)), (2, .int x2_6)]) hx hb dX9_faultOfWriting_115 rfl hl (by decide) rfl (fun ls hl => ?_)
                  refine lv_aload_n hx hb dX9_faultOfWriting_116 rfl (lv_at hl 2 rfl) ?_
                  refine g_get (v := .ref (ad 22 12)) hx hb hts hown hK hP (hLm.h (f := 21) (by decide)) (gC21 _ _ _ _) gcl9 iX9_faultOfWriting_X9 17 (by decide) mX9_faultOfWriting_5 rfl rfl dX9_faultOfWriting_117 ?_
                  refine lv_aload_n hx hb dX9_faultOfWriting_120 rfl (lv_at hl 2 rfl) ?_
                  refine g_get (v := .int (M23 21 0 18)) hx hb hts hown hK hP (hLm.h (f := 21) (by decide)) (gC21 _ _ _ _) gcl9 iX9_faultOfWriting_X9 18 (by decide) mX9_faultOfWriting_1 rfl rfl dX9_faultOfWriting_121 ?_
                  refine lv_iload_n hx hb dX9_faultOfWriting_124 rfl (lv_at hl 0 rfl) ?_
                  refine lv_if_eq (tgt := 132) hx hb dX9_faultOfWriting_125 (by decide) (fun c => absurd c (by decide)) (fun _ => ?_)
                  refine lv_iconst (v := (1 : Int32)) hx hb dX9_faultOfWriting_128 (by decide) ?_
                  refine lv_goto (tgt := 133) hx hb dX9_faultOfWriting_129 (by decide) ?_
                  have hb49 := hw.1
                  have hw := hw.2
                  refine g_iast (n := 15) hx hb hF hK hP hS (hLm.h (f := 22) (by decide)) (fun _ => rfl) hb49 dX9_faultOfWriting_133 (fun M50 e51 H locs hP hS => ?_)
                  have hw := hw M50 e51
                  refine lv_iload_n hx hb dX9_faultOfWriting_134 rfl (lv_at hl 1 rfl) ?_
                  refine lv_aload_n hx hb dX9_faultOfWriting_135 rfl (lv_at hl 2 rfl) ?_
                  refine g_get (v := .ref (ad 22 12)) hx hb hts hown hK hP (hLm.h (f := 21) (by decide)) (gC21 _ _ _ _) gcl9 iX9_faultOfWriting_X9 17 (by decide) mX9_faultOfWriting_5 rfl rfl dX9_faultOfWriting_136 ?_
                  refine lv_aload_n hx hb dX9_faultOfWriting_139 rfl (lv_at hl 2 rfl) ?_
                  refine g_get (v := .int (M50 21 0 18)) hx hb hts hown hK hP (hLm.h (f := 21) (by decide)) (gC21 _ _ _ _) gcl9 iX9_faultOfWriting_X9 18 (by decide) mX9_faultOfWriting_1 rfl rfl dX9_faultOfWriting_140 ?_
                  have hb52 := hw.1
                  have hw := hw.2
                  refine g_iald (n := 15) hx hb hK hP (hLm.h (f := 22) (by decide)) rfl hb52 dX9_faultOfWriting_143 ?_
                  refine lv_iadd hx hb dX9_faultOfWriting_144 ?_
                  refine lv_topi (fun y53 e54 => ?_)
                  have hw := hw y53 e54
                  refine lv_istore_n (lv' := [(1, .int y53), (3, .int (1 : Int32)), (0, .ref (ad 21 0)), (2, .int x2_6)]) hx hb dX9_faultOfWriting_145 rfl hl (by decide) rfl (fun ls hl => ?_)
                  refine lv_aload_n hx hb dX9_faultOfWriting_146 rfl (lv_at hl 2 rfl) ?_
                  refine lv_dup hx hb dX9_faultOfWriting_147 rfl ?_
                  refine g_get (v := .int (M50 21 0 18)) hx hb hts hown hK hP (hLm.h (f := 21) (by decide)) (gC21 _ _ _ _) gcl9 iX9_faultOfWriting_X9 18 (by decide) mX9_faultOfWriting_1 rfl rfl dX9_faultOfWriting_148 ?_
                  refine lv_iconst (v := (1 : Int32)) hx hb dX9_faultOfWriting_151 (by decide) ?_
                  refine lv_iadd hx hb dX9_faultOfWriting_152 ?_
                  refine g_put hx hb hF hts hown hK hP hS (hLm.h (f := 21) (by decide)) (gC21 _ _ _ _) gcl9 iX9_faultOfWriting_X9 tyX9 tyX9_ok nmX9 18 (by decide) mX9_faultOfWriting_1 rfl rfl rfl rfl (Nat.lt_of_lt_of_eq (by decide : 18 < 19) rfl) rfl dX9_faultOfWriting_153 (fun M55 e56 H locs hP hS => ?_)
                  have hw := hw M55 e56
                  refine lv_iload_n hx hb dX9_faultOfWriting_156 rfl (lv_at hl 1 rfl) ?_
                  refine lv_if_ne (tgt := 168) hx hb dX9_faultOfWriting_157 (by decide) (fun _ => ?_) (fun c => absurd c (by decide))
                  refine lv_iconst (v := (1 : Int32)) hx hb dX9_faultOfWriting_168 (by decide) ?_
                  refine lv_goto (tgt := 173) hx hb dX9_faultOfWriting_169 (by decide) ?_
                  refine lv_istore_n (lv' := [(2, .int (1 : Int32)), (1, .int y53), (3, .int (1 : Int32)), (0, .ref (ad 21 0))]) hx hb dX9_faultOfWriting_173 rfl hl (by decide) rfl (fun ls hl => ?_)
                  refine lv_goto (tgt := 9) hx hb dX9_faultOfWriting_174 (by decide) ?_
                  exact ihn3 _ _ _ _ _ _ hw hP hS (lv_sub hl [3, 1, 0] rfl)
            · have hw := hw.2 c18
              refine lv_iconst (v := (1 : Int32)) hx hb dX9_faultOfWriting_71 (by decide) ?_
              refine lv_goto (tgt := 76) hx hb dX9_faultOfWriting_72 (by decide) ?_
              have hb57 := hw.1
              have hw := hw.2
              refine g_iast (n := 15) hx hb hF hK hP hS (hLm.h (f := 22) (by decide)) (fun _ => rfl) hb57 dX9_faultOfWriting_76 (fun M58 e59 H locs hP hS => ?_)
              have hw := hw M58 e59
              refine lv_iload_n hx hb dX9_faultOfWriting_77 rfl (lv_at hl 0 rfl) ?_
              refine lv_aload_n hx hb dX9_faultOfWriting_78 rfl (lv_at hl 1 rfl) ?_
              refine g_get (v := .ref (ad 22 11)) hx hb hts hown hK hP (hLm.h (f := 21) (by decide)) (gC21 _ _ _ _) gcl9 iX9_faultOfWriting_X9 16 (by decide) mX9_faultOfWriting_4 rfl rfl dX9_faultOfWriting_79 ?_
              refine lv_aload_n hx hb dX9_faultOfWriting_82 rfl (lv_at hl 1 rfl) ?_
              refine g_get (v := .int (M58 21 0 18)) hx hb hts hown hK hP (hLm.h (f := 21) (by decide)) (gC21 _ _ _ _) gcl9 iX9_faultOfWriting_X9 18 (by decide) mX9_faultOfWriting_1 rfl rfl dX9_faultOfWriting_83 ?_
              have hb60 := hw.1
              have hw := hw.2
              refine g_iald (n := 15) hx hb hK hP (hLm.h (f := 22) (by decide)) rfl hb60 dX9_faultOfWriting_86 ?_
              refine lv_iadd hx hb dX9_faultOfWriting_87 ?_
              refine lv_istore_n (lv' := [(1, .int ((x1_5 + (1 : Int32)) + (M58 22 11 (M58 21 0 18).toNatClampNeg))), (0, .ref (ad 21 0)), (2, .int x2_6)]) hx hb dX9_faultOfWriting_88 rfl hl (by decide) rfl (fun ls hl => ?_)
              refine lv_aload_n hx hb dX9_faultOfWriting_89 rfl (lv_at hl 1 rfl) ?_
              refine lv_iload_n hx hb dX9_faultOfWriting_90 rfl (lv_at hl 0 rfl) ?_
              refine lv_bipush (v := (45 : Int32)) hx hb dX9_faultOfWriting_91 (by decide) ?_
              refine g_Vi (As := [.int ((x1_5 + (1 : Int32)) + (M58 22 11 (M58 21 0 18).toNatClampNeg)), .int (45 : Int32)]) (rest := []) S hK hN hP hS (qX9_isThere l D E ad L A hF hLm M58 ((x1_5 + (1 : Int32)) + (M58 22 11 (M58 21 0 18).toNatClampNeg)) (45 : Int32)  _ hw) (cwV 2 hts gX9_faultOfWriting_X9_isThere rfl rfl rfl eX9_isThere ⟨Nat.le_of_ble_eq_true rfl, Nat.le_of_ble_eq_true rfl⟩) (hLm.h (f := 21) (by decide)) (gC21 _ _ _ _) gcl9 rfl rfl rfl hl.1 (Nat.le_of_ble_eq_true rfl) ⟨Nat.zero_le _, Nat.zero_le _⟩ dX9_faultOfWriting_93 (fun r62 M61 H locs hw hP hS => ?_)
              refine lv_if_eq (tgt := 114) hx hb dX9_faultOfWriting_96 (by decide) (fun c63 => ?_) (fun c63 => ?_)
              · have hw := hw.1 c63
                refine lv_iconst (v := (0 : Int32)) hx hb dX9_faultOfWriting_114 (by decide) ?_
                refine lv_istore_n (lv' := [(3, .int (0 : Int32)), (1, .int ((x1_5 + (1 : Int32)) + (M58 22 11 (M58 21 0 18).toNatClampNeg))), (0, .ref (ad 21 0)), (2, .int x2_6)]) hx hb dX9_faultOfWriting_115 rfl hl (by decide) rfl (fun ls hl => ?_)
                refine lv_aload_n hx hb dX9_faultOfWriting_116 rfl (lv_at hl 2 rfl) ?_
                refine g_get (v := .ref (ad 22 12)) hx hb hts hown hK hP (hLm.h (f := 21) (by decide)) (gC21 _ _ _ _) gcl9 iX9_faultOfWriting_X9 17 (by decide) mX9_faultOfWriting_5 rfl rfl dX9_faultOfWriting_117 ?_
                refine lv_aload_n hx hb dX9_faultOfWriting_120 rfl (lv_at hl 2 rfl) ?_
                refine g_get (v := .int (M61 21 0 18)) hx hb hts hown hK hP (hLm.h (f := 21) (by decide)) (gC21 _ _ _ _) gcl9 iX9_faultOfWriting_X9 18 (by decide) mX9_faultOfWriting_1 rfl rfl dX9_faultOfWriting_121 ?_
                refine lv_iload_n hx hb dX9_faultOfWriting_124 rfl (lv_at hl 0 rfl) ?_
                refine lv_if_eq (tgt := 132) hx hb dX9_faultOfWriting_125 (by decide) (fun _ => ?_) (fun c => absurd (by decide) c)
                refine lv_iconst (v := (0 : Int32)) hx hb dX9_faultOfWriting_132 (by decide) ?_
                have hb64 := hw.1
                have hw := hw.2
                refine g_iast (n := 15) hx hb hF hK hP hS (hLm.h (f := 22) (by decide)) (fun _ => rfl) hb64 dX9_faultOfWriting_133 (fun M65 e66 H locs hP hS => ?_)
                have hw := hw M65 e66
                refine lv_iload_n hx hb dX9_faultOfWriting_134 rfl (lv_at hl 1 rfl) ?_
                refine lv_aload_n hx hb dX9_faultOfWriting_135 rfl (lv_at hl 2 rfl) ?_
                refine g_get (v := .ref (ad 22 12)) hx hb hts hown hK hP (hLm.h (f := 21) (by decide)) (gC21 _ _ _ _) gcl9 iX9_faultOfWriting_X9 17 (by decide) mX9_faultOfWriting_5 rfl rfl dX9_faultOfWriting_136 ?_
                refine lv_aload_n hx hb dX9_faultOfWriting_139 rfl (lv_at hl 2 rfl) ?_
                refine g_get (v := .int (M65 21 0 18)) hx hb hts hown hK hP (hLm.h (f := 21) (by decide)) (gC21 _ _ _ _) gcl9 iX9_faultOfWriting_X9 18 (by decide) mX9_faultOfWriting_1 rfl rfl dX9_faultOfWriting_140 ?_
                have hb67 := hw.1
                have hw := hw.2
                refine g_iald (n := 15) hx hb hK hP (hLm.h (f := 22) (by decide)) rfl hb67 dX9_faultOfWriting_143 ?_
                refine lv_iadd hx hb dX9_faultOfWriting_144 ?_
                refine lv_topi (fun y68 e69 => ?_)
                have hw := hw y68 e69
                refine lv_istore_n (lv' := [(1, .int y68), (3, .int (0 : Int32)), (0, .ref (ad 21 0)), (2, .int x2_6)]) hx hb dX9_faultOfWriting_145 rfl hl (by decide) rfl (fun ls hl => ?_)
                refine lv_aload_n hx hb dX9_faultOfWriting_146 rfl (lv_at hl 2 rfl) ?_
                refine lv_dup hx hb dX9_faultOfWriting_147 rfl ?_
                refine g_get (v := .int (M65 21 0 18)) hx hb hts hown hK hP (hLm.h (f := 21) (by decide)) (gC21 _ _ _ _) gcl9 iX9_faultOfWriting_X9 18 (by decide) mX9_faultOfWriting_1 rfl rfl dX9_faultOfWriting_148 ?_
                refine lv_iconst (v := (1 : Int32)) hx hb dX9_faultOfWriting_151 (by decide) ?_
                refine lv_iadd hx hb dX9_faultOfWriting_152 ?_
                refine g_put hx hb hF hts hown hK hP hS (hLm.h (f := 21) (by decide)) (gC21 _ _ _ _) gcl9 iX9_faultOfWriting_X9 tyX9 tyX9_ok nmX9 18 (by decide) mX9_faultOfWriting_1 rfl rfl rfl rfl (Nat.lt_of_lt_of_eq (by decide : 18 < 19) rfl) rfl dX9_faultOfWriting_153 (fun M70 e71 H locs hP hS => ?_)
                have hw := hw M70 e71
                refine lv_iload_n hx hb dX9_faultOfWriting_156 rfl (lv_at hl 1 rfl) ?_
                refine lv_if_ne (tgt := 168) hx hb dX9_faultOfWriting_157 (by decide) (fun c => absurd (by decide) c) (fun _ => ?_)
                refine lv_aload_n hx hb dX9_faultOfWriting_160 rfl (lv_at hl 2 rfl) ?_
                refine lv_iload_n hx hb dX9_faultOfWriting_161 rfl (lv_at hl 0 rfl) ?_
                refine g_Vi (As := [.int y68]) (rest := []) S hK hN hP hS (qX9_isLetter l D E ad L A hF hLm M70 y68  _ hw) (cwV 1 hts gX9_faultOfWriting_X9_isLetter rfl rfl rfl eX9_isLetter ⟨Nat.le_of_ble_eq_true rfl, Nat.le_of_ble_eq_true rfl⟩) (hLm.h (f := 21) (by decide)) (gC21 _ _ _ _) gcl9 rfl rfl rfl hl.1 (Nat.le_of_ble_eq_true rfl) ⟨Nat.zero_le _, Nat.zero_le _⟩ dX9_faultOfWriting_162 (fun r73 M72 H locs hw hP hS => ?_)
                refine lv_if_eq (tgt := 172) hx hb dX9_faultOfWriting_165 (by decide) (fun c74 => ?_) (fun c74 => ?_)
                · have hw := hw.1 c74
                  refine lv_iconst (v := (0 : Int32)) hx hb dX9_faultOfWriting_172 (by decide) ?_
                  refine lv_istore_n (lv' := [(2, .int (0 : Int32)), (1, .int y68), (3, .int (0 : Int32)), (0, .ref (ad 21 0))]) hx hb dX9_faultOfWriting_173 rfl hl (by decide) rfl (fun ls hl => ?_)
                  refine lv_goto (tgt := 9) hx hb dX9_faultOfWriting_174 (by decide) ?_
                  exact ihn3 _ _ _ _ _ _ hw hP hS (lv_sub hl [3, 1, 0] rfl)
                · have hw := hw.2 c74
                  refine lv_iconst (v := (1 : Int32)) hx hb dX9_faultOfWriting_168 (by decide) ?_
                  refine lv_goto (tgt := 173) hx hb dX9_faultOfWriting_169 (by decide) ?_
                  refine lv_istore_n (lv' := [(2, .int (1 : Int32)), (1, .int y68), (3, .int (0 : Int32)), (0, .ref (ad 21 0))]) hx hb dX9_faultOfWriting_173 rfl hl (by decide) rfl (fun ls hl => ?_)
                  refine lv_goto (tgt := 9) hx hb dX9_faultOfWriting_174 (by decide) ?_
                  exact ihn3 _ _ _ _ _ _ hw hP hS (lv_sub hl [3, 1, 0] rfl)
              · have hw := hw.2 c63
                refine lv_aload_n hx hb dX9_faultOfWriting_99 rfl (lv_at hl 1 rfl) ?_
                refine g_get (v := .int (M61 21 0 18)) hx hb hts hown hK hP (hLm.h (f := 21) (by decide)) (gC21 _ _ _ _) gcl9 iX9_faultOfWriting_X9 18 (by decide) mX9_faultOfWriting_1 rfl rfl dX9_faultOfWriting_100 ?_
                refine lv_iconst (v := (1 : Int32)) hx hb dX9_faultOfWriting_103 (by decide) ?_
                refine lv_iadd hx hb dX9_faultOfWriting_104 ?_
                refine lv_bipush (v := (15 : Int32)) hx hb dX9_faultOfWriting_105 (by decide) ?_
                refine lv_icmp_ge (tgt := 114) hx hb dX9_faultOfWriting_107 (by decide) (fun c75 => ?_) (fun c75 => ?_)
                · have hw := hw.1 c75
                  refine lv_iconst (v := (0 : Int32)) hx hb dX9_faultOfWriting_114 (by decide) ?_
                  refine lv_istore_n (lv' := [(3, .int (0 : Int32)), (1, .int ((x1_5 + (1 : Int32)) + (M58 22 11 (M58 21 0 18).toNatClampNeg))), (0, .ref (ad 21 0)), (2, .int x2_6)]) hx hb dX9_faultOfWriting_115 rfl hl (by decide) rfl (fun ls hl => ?_)
                  refine lv_aload_n hx hb dX9_faultOfWriting_116 rfl (lv_at hl 2 rfl) ?_
                  refine g_get (v := .ref (ad 22 12)) hx hb hts hown hK hP (hLm.h (f := 21) (by decide)) (gC21 _ _ _ _) gcl9 iX9_faultOfWriting_X9 17 (by decide) mX9_faultOfWriting_5 rfl rfl dX9_faultOfWriting_117 ?_
                  refine lv_aload_n hx hb dX9_faultOfWriting_120 rfl (lv_at hl 2 rfl) ?_
                  refine g_get (v := .int (M61 21 0 18)) hx hb hts hown hK hP (hLm.h (f := 21) (by decide)) (gC21 _ _ _ _) gcl9 iX9_faultOfWriting_X9 18 (by decide) mX9_faultOfWriting_1 rfl rfl dX9_faultOfWriting_121 ?_
                  refine lv_iload_n hx hb dX9_faultOfWriting_124 rfl (lv_at hl 0 rfl) ?_
                  refine lv_if_eq (tgt := 132) hx hb dX9_faultOfWriting_125 (by decide) (fun _ => ?_) (fun c => absurd (by decide) c)
                  refine lv_iconst (v := (0 : Int32)) hx hb dX9_faultOfWriting_132 (by decide) ?_
                  have hb76 := hw.1
                  have hw := hw.2
                  refine g_iast (n := 15) hx hb hF hK hP hS (hLm.h (f := 22) (by decide)) (fun _ => rfl) hb76 dX9_faultOfWriting_133 (fun M77 e78 H locs hP hS => ?_)
                  have hw := hw M77 e78
                  refine lv_iload_n hx hb dX9_faultOfWriting_134 rfl (lv_at hl 1 rfl) ?_
                  refine lv_aload_n hx hb dX9_faultOfWriting_135 rfl (lv_at hl 2 rfl) ?_
                  refine g_get (v := .ref (ad 22 12)) hx hb hts hown hK hP (hLm.h (f := 21) (by decide)) (gC21 _ _ _ _) gcl9 iX9_faultOfWriting_X9 17 (by decide) mX9_faultOfWriting_5 rfl rfl dX9_faultOfWriting_136 ?_
                  refine lv_aload_n hx hb dX9_faultOfWriting_139 rfl (lv_at hl 2 rfl) ?_
                  refine g_get (v := .int (M77 21 0 18)) hx hb hts hown hK hP (hLm.h (f := 21) (by decide)) (gC21 _ _ _ _) gcl9 iX9_faultOfWriting_X9 18 (by decide) mX9_faultOfWriting_1 rfl rfl dX9_faultOfWriting_140 ?_
                  have hb79 := hw.1
                  have hw := hw.2
                  refine g_iald (n := 15) hx hb hK hP (hLm.h (f := 22) (by decide)) rfl hb79 dX9_faultOfWriting_143 ?_
                  refine lv_iadd hx hb dX9_faultOfWriting_144 ?_
                  refine lv_topi (fun y80 e81 => ?_)
                  have hw := hw y80 e81
                  refine lv_istore_n (lv' := [(1, .int y80), (3, .int (0 : Int32)), (0, .ref (ad 21 0)), (2, .int x2_6)]) hx hb dX9_faultOfWriting_145 rfl hl (by decide) rfl (fun ls hl => ?_)
                  refine lv_aload_n hx hb dX9_faultOfWriting_146 rfl (lv_at hl 2 rfl) ?_
                  refine lv_dup hx hb dX9_faultOfWriting_147 rfl ?_
                  refine g_get (v := .int (M77 21 0 18)) hx hb hts hown hK hP (hLm.h (f := 21) (by decide)) (gC21 _ _ _ _) gcl9 iX9_faultOfWriting_X9 18 (by decide) mX9_faultOfWriting_1 rfl rfl dX9_faultOfWriting_148 ?_
                  refine lv_iconst (v := (1 : Int32)) hx hb dX9_faultOfWriting_151 (by decide) ?_
                  refine lv_iadd hx hb dX9_faultOfWriting_152 ?_
                  refine g_put hx hb hF hts hown hK hP hS (hLm.h (f := 21) (by decide)) (gC21 _ _ _ _) gcl9 iX9_faultOfWriting_X9 tyX9 tyX9_ok nmX9 18 (by decide) mX9_faultOfWriting_1 rfl rfl rfl rfl (Nat.lt_of_lt_of_eq (by decide : 18 < 19) rfl) rfl dX9_faultOfWriting_153 (fun M82 e83 H locs hP hS => ?_)
                  have hw := hw M82 e83
                  refine lv_iload_n hx hb dX9_faultOfWriting_156 rfl (lv_at hl 1 rfl) ?_
                  refine lv_if_ne (tgt := 168) hx hb dX9_faultOfWriting_157 (by decide) (fun c => absurd (by decide) c) (fun _ => ?_)
                  refine lv_aload_n hx hb dX9_faultOfWriting_160 rfl (lv_at hl 2 rfl) ?_
                  refine lv_iload_n hx hb dX9_faultOfWriting_161 rfl (lv_at hl 0 rfl) ?_
                  refine g_Vi (As := [.int y80]) (rest := []) S hK hN hP hS (qX9_isLetter l D E ad L A hF hLm M82 y80  _ hw) (cwV 1 hts gX9_faultOfWriting_X9_isLetter rfl rfl rfl eX9_isLetter ⟨Nat.le_of_ble_eq_true rfl, Nat.le_of_ble_eq_true rfl⟩) (hLm.h (f := 21) (by decide)) (gC21 _ _ _ _) gcl9 rfl rfl rfl hl.1 (Nat.le_of_ble_eq_true rfl) ⟨Nat.zero_le _, Nat.zero_le _⟩ dX9_faultOfWriting_162 (fun r85 M84 H locs hw hP hS => ?_)
                  refine lv_if_eq (tgt := 172) hx hb dX9_faultOfWriting_165 (by decide) (fun c86 => ?_) (fun c86 => ?_)
                  · have hw := hw.1 c86
                    refine lv_iconst (v := (0 : Int32)) hx hb dX9_faultOfWriting_172 (by decide) ?_
                    refine lv_istore_n (lv' := [(2, .int (0 : Int32)), (1, .int y80), (3, .int (0 : Int32)), (0, .ref (ad 21 0))]) hx hb dX9_faultOfWriting_173 rfl hl (by decide) rfl (fun ls hl => ?_)
                    refine lv_goto (tgt := 9) hx hb dX9_faultOfWriting_174 (by decide) ?_
                    exact ihn3 _ _ _ _ _ _ hw hP hS (lv_sub hl [3, 1, 0] rfl)
                  · have hw := hw.2 c86
                    refine lv_iconst (v := (1 : Int32)) hx hb dX9_faultOfWriting_168 (by decide) ?_
                    refine lv_goto (tgt := 173) hx hb dX9_faultOfWriting_169 (by decide) ?_
                    refine lv_istore_n (lv' := [(2, .int (1 : Int32)), (1, .int y80), (3, .int (0 : Int32)), (0, .ref (ad 21 0))]) hx hb dX9_faultOfWriting_173 rfl hl (by decide) rfl (fun ls hl => ?_)
                    refine lv_goto (tgt := 9) hx hb dX9_faultOfWriting_174 (by decide) ?_
                    exact ihn3 _ _ _ _ _ _ hw hP hS (lv_sub hl [3, 1, 0] rfl)
                · have hw := hw.2 c75
                  refine lv_iconst (v := (1 : Int32)) hx hb dX9_faultOfWriting_110 (by decide) ?_
                  refine lv_goto (tgt := 115) hx hb dX9_faultOfWriting_111 (by decide) ?_
                  refine lv_istore_n (lv' := [(3, .int (1 : Int32)), (1, .int ((x1_5 + (1 : Int32)) + (M58 22 11 (M58 21 0 18).toNatClampNeg))), (0, .ref (ad 21 0)), (2, .int x2_6)]) hx hb dX9_faultOfWriting_115 rfl hl (by decide) rfl (fun ls hl => ?_)
                  refine lv_aload_n hx hb dX9_faultOfWriting_116 rfl (lv_at hl 2 rfl) ?_
                  refine g_get (v := .ref (ad 22 12)) hx hb hts hown hK hP (hLm.h (f := 21) (by decide)) (gC21 _ _ _ _) gcl9 iX9_faultOfWriting_X9 17 (by decide) mX9_faultOfWriting_5 rfl rfl dX9_faultOfWriting_117 ?_
                  refine lv_aload_n hx hb dX9_faultOfWriting_120 rfl (lv_at hl 2 rfl) ?_
                  refine g_get (v := .int (M61 21 0 18)) hx hb hts hown hK hP (hLm.h (f := 21) (by decide)) (gC21 _ _ _ _) gcl9 iX9_faultOfWriting_X9 18 (by decide) mX9_faultOfWriting_1 rfl rfl dX9_faultOfWriting_121 ?_
                  refine lv_iload_n hx hb dX9_faultOfWriting_124 rfl (lv_at hl 0 rfl) ?_
                  refine lv_if_eq (tgt := 132) hx hb dX9_faultOfWriting_125 (by decide) (fun c => absurd c (by decide)) (fun _ => ?_)
                  refine lv_iconst (v := (1 : Int32)) hx hb dX9_faultOfWriting_128 (by decide) ?_
                  refine lv_goto (tgt := 133) hx hb dX9_faultOfWriting_129 (by decide) ?_
                  have hb87 := hw.1
                  have hw := hw.2
                  refine g_iast (n := 15) hx hb hF hK hP hS (hLm.h (f := 22) (by decide)) (fun _ => rfl) hb87 dX9_faultOfWriting_133 (fun M88 e89 H locs hP hS => ?_)
                  have hw := hw M88 e89
                  refine lv_iload_n hx hb dX9_faultOfWriting_134 rfl (lv_at hl 1 rfl) ?_
                  refine lv_aload_n hx hb dX9_faultOfWriting_135 rfl (lv_at hl 2 rfl) ?_
                  refine g_get (v := .ref (ad 22 12)) hx hb hts hown hK hP (hLm.h (f := 21) (by decide)) (gC21 _ _ _ _) gcl9 iX9_faultOfWriting_X9 17 (by decide) mX9_faultOfWriting_5 rfl rfl dX9_faultOfWriting_136 ?_
                  refine lv_aload_n hx hb dX9_faultOfWriting_139 rfl (lv_at hl 2 rfl) ?_
                  refine g_get (v := .int (M88 21 0 18)) hx hb hts hown hK hP (hLm.h (f := 21) (by decide)) (gC21 _ _ _ _) gcl9 iX9_faultOfWriting_X9 18 (by decide) mX9_faultOfWriting_1 rfl rfl dX9_faultOfWriting_140 ?_
                  have hb90 := hw.1
                  have hw := hw.2
                  refine g_iald (n := 15) hx hb hK hP (hLm.h (f := 22) (by decide)) rfl hb90 dX9_faultOfWriting_143 ?_
                  refine lv_iadd hx hb dX9_faultOfWriting_144 ?_
                  refine lv_topi (fun y91 e92 => ?_)
                  have hw := hw y91 e92
                  refine lv_istore_n (lv' := [(1, .int y91), (3, .int (1 : Int32)), (0, .ref (ad 21 0)), (2, .int x2_6)]) hx hb dX9_faultOfWriting_145 rfl hl (by decide) rfl (fun ls hl => ?_)
                  refine lv_aload_n hx hb dX9_faultOfWriting_146 rfl (lv_at hl 2 rfl) ?_
                  refine lv_dup hx hb dX9_faultOfWriting_147 rfl ?_
                  refine g_get (v := .int (M88 21 0 18)) hx hb hts hown hK hP (hLm.h (f := 21) (by decide)) (gC21 _ _ _ _) gcl9 iX9_faultOfWriting_X9 18 (by decide) mX9_faultOfWriting_1 rfl rfl dX9_faultOfWriting_148 ?_
                  refine lv_iconst (v := (1 : Int32)) hx hb dX9_faultOfWriting_151 (by decide) ?_
                  refine lv_iadd hx hb dX9_faultOfWriting_152 ?_
                  refine g_put hx hb hF hts hown hK hP hS (hLm.h (f := 21) (by decide)) (gC21 _ _ _ _) gcl9 iX9_faultOfWriting_X9 tyX9 tyX9_ok nmX9 18 (by decide) mX9_faultOfWriting_1 rfl rfl rfl rfl (Nat.lt_of_lt_of_eq (by decide : 18 < 19) rfl) rfl dX9_faultOfWriting_153 (fun M93 e94 H locs hP hS => ?_)
                  have hw := hw M93 e94
                  refine lv_iload_n hx hb dX9_faultOfWriting_156 rfl (lv_at hl 1 rfl) ?_
                  refine lv_if_ne (tgt := 168) hx hb dX9_faultOfWriting_157 (by decide) (fun _ => ?_) (fun c => absurd c (by decide))
                  refine lv_iconst (v := (1 : Int32)) hx hb dX9_faultOfWriting_168 (by decide) ?_
                  refine lv_goto (tgt := 173) hx hb dX9_faultOfWriting_169 (by decide) ?_
                  refine lv_istore_n (lv' := [(2, .int (1 : Int32)), (1, .int y91), (3, .int (1 : Int32)), (0, .ref (ad 21 0))]) hx hb dX9_faultOfWriting_173 rfl hl (by decide) rfl (fun ls hl => ?_)
                  refine lv_goto (tgt := 9) hx hb dX9_faultOfWriting_174 (by decide) ?_
                  exact ihn3 _ _ _ _ _ _ hw hP hS (lv_sub hl [3, 1, 0] rfl)
          · have hw := hw.1 c11
            refine lv_iload_n hx hb dX9_faultOfWriting_30 rfl (lv_at hl 1 rfl) ?_
            exact g_iret hx hb hr hlocks hw hP hS dX9_faultOfWriting_31
  exact hlX9_faultOfWriting_L9 n99 _ _ _ _ _ _ hw hP hS (lv_sub hl [2, 1, 0] rfl)
