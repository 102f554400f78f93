/-! ===== LAYER 1: contracts, walked (printed by wip/whole/gen.py) ===== -/
abbrev rmX0_dropOldest : Room := { frames := 0, cells := 0, slots := 0, locals := 0 }
theorem eX0_dropOldest : yX0_dropOldest.cls = RX0 ∧ yX0_dropOldest.cls ≠ "java/lang/invoke/MethodHandle" ∧ yX0_dropOldest.cls ≠ "java/lang/invoke/VarHandle" ∧ (parseMethodDescriptor yX0_dropOldest.desc).map (fun d => d.parameters.length) = some 0 := by decide +kernel
theorem iX0_dropOldest_X0 : ∀ w ∈ wsX00, w ∈ wsX0_dropOldest := fun _ h => List.mem_cons_of_mem _ (List.mem_append_right _ (h))
theorem mX0_dropOldest_1 : Cond.fieldLink RX0 11 "PracticeSheets$History" "states" "[LPracticeSheets$State;" ∈ wsX0_dropOldest := List.mem_of_getElem? (i := 1) rfl
theorem mX0_dropOldest_2 : Cond.fieldLink RX0 18 "PracticeSheets$History" "size" "I" ∈ wsX0_dropOldest := List.mem_of_getElem? (i := 2) rfl
set_option maxHeartbeats 4000000 in
set_option maxRecDepth 100000 in
theorem qX0_dropOldest (l : Launch) (D : va_G) (E : Nat → ClassId) (ad : Nat → Nat → Nat) (L : List (Nat × Nat)) (A : Nat → Prop) (hF : gF E ad L A) (hLx : gLx L) (M0 : gW)  (K : gW → Prop) (hw : wX0_dropOldest M0 K) : Met l yX0_dropOldest wsX0_dropOldest rmX0_dropOldest (va_Pc [.ref (ad 10 0)] (gPre D E ad L M0)) (gQv D E ad L A K) 0 0 A := by
  refine Met.ofW (cc := cX0_dropOldest) (maxL := 3) (ret := none) (by decide) rfl ?_
  intro p e s m args below meth c s₁ B hml hv
  obtain ⟨rfl, hP, hK, hN⟩ := hv
  have hx := B.exec
  have hb := B.bytes
  have hr := B.returns
  have hts := atoms_spec (ws := wsX0_dropOldest) B.pre
  have hown : s.vm.findClass RX0 = some m.cls := findClass_of_methodNamed B.named
  have hlocks := B.notSynchronized
  have S : CallFix p m c cX0_dropOldest 3 s ([.ref (ad 10 0)] : List Value).toArray wsX0_dropOldest RX0 := ⟨hx, hb, hml, hown, hts⟩
  have hS : va_S A s.heap s.heap [] := va_S.rf
  have hl := lv_entry ([.ref (ad 10 0)]) (n := 3) (Nat.le_of_ble_eq_true rfl)
  rw [lg_entry_eq]
  generalize (lg_sl ([.ref (ad 10 0)]) ++ List.replicate (3 - (lg_sl ([.ref (ad 10 0)])).length) Slot.unset).toArray = ls at hl ⊢
  have hl : lv_has ls 3 [(0, .ref (ad 10 0))] := hl
  refine lv_aload_n hx hb dX0_dropOldest_0 rfl (lv_at hl 0 rfl) ?_
  refine g_get (v := .ref (ad 11 0)) hx hb hts hown hK hP (hLx.h (f := 10) (by decide)) (gC10 _ _ _ _) gcl0 iX0_dropOldest_X0 0 (by decide) mX0_dropOldest_1 rfl rfl dX0_dropOldest_1 ?_
  refine lv_iconst (v := (0 : Int32)) hx hb dX0_dropOldest_4 (by decide) ?_
  have hb1 := hw.1
  have hw := hw.2
  refine g_alds hx hb hK hP (hLx.h (f := 11) (by decide)) hb1 dX0_dropOldest_5 ?_
  have hb2 := hw.1
  have hw := hw.2
  refine lv_astore_n (lv' := [(1, .ref (ad 1 ((M0 11 0 (0 : Int32).toNatClampNeg).toNatClampNeg))), (0, .ref (ad 10 0))]) hx hb dX0_dropOldest_6 rfl hl (by decide) rfl (fun ls hl => ?_)
  refine lv_iconst (v := (1 : Int32)) hx hb dX0_dropOldest_7 (by decide) ?_
  refine lv_istore_n (lv' := [(2, .int (1 : Int32)), (1, .ref (ad 1 ((M0 11 0 (0 : Int32).toNatClampNeg).toNatClampNeg))), (0, .ref (ad 10 0))]) hx hb dX0_dropOldest_8 rfl hl (by decide) rfl (fun ls hl => ?_)
  obtain ⟨n19, hw⟩ := hw
  have hxX0_dropOldest_L9_0 : ∀ (M12 : gW) (x2_13 : Int32) (H : Heap) (locs : List Loc) (ls : Array Slot), ((vp_in (3 : Int32) 4) ∧ (∀ M15 : gW, M15 = gU M12 11 0 (upd (M12 11 0) (3 : Int32).toNatClampNeg (nI ((M0 11 0 (0 : Int32).toNatClampNeg).toNatClampNeg))) → (∀ M17 : gW, M17 = gU M15 10 0 (upd (M15 10 0) 1 ((M15 10 0 1) - (1 : Int32))) → (K M17)))) → va_P D vwCl (gL E ad L M12) H → va_S A s.heap H locs → lv_has ls 3 [(0, .ref (ad 10 0)), (1, .ref (ad 1 ((M0 11 0 (0 : Int32).toNatClampNeg).toNatClampNeg))), (2, .int x2_13)] → W p l e (headSpec wsX0_dropOldest rmX0_dropOldest).room s m (([.ref (ad 10 0)] : List Value).toArray) below meth c H locs 0 0 (MQ below (gQv D E ad L A K) ([.ref (ad 10 0)] : List Value).toArray s 0 0 A) (F0 m 34 ls []) := by
    intro M12 x2_13 H locs ls hw hP hS hl
    refine lv_aload_n hx hb dX0_dropOldest_34 rfl (lv_at hl 0 rfl) ?_
    refine g_get (v := .ref (ad 11 0)) hx hb hts hown hK hP (hLx.h (f := 10) (by decide)) (gC10 _ _ _ _) gcl0 iX0_dropOldest_X0 0 (by decide) mX0_dropOldest_1 rfl rfl dX0_dropOldest_35 ?_
    refine lv_iconst (v := (3 : Int32)) hx hb dX0_dropOldest_38 (by decide) ?_
    refine lv_aload_n hx hb dX0_dropOldest_39 rfl (lv_at hl 1 rfl) ?_
    have hb14 := hw.1
    have hw := hw.2
    refine g_asts hx hb hF hK hP hS (hLx.h (f := 11) (by decide)) hb2 (hLx.h (f := 1) hb2) hb14 dX0_dropOldest_40 (fun M15 e16 H locs hP hS => ?_)
    have hw := hw M15 e16
    refine lv_aload_n hx hb dX0_dropOldest_41 rfl (lv_at hl 0 rfl) ?_
    refine lv_dup hx hb dX0_dropOldest_42 rfl ?_
    refine g_get (v := .int (M15 10 0 1)) hx hb hts hown hK hP (hLx.h (f := 10) (by decide)) (gC10 _ _ _ _) gcl0 iX0_dropOldest_X0 1 (by decide) mX0_dropOldest_2 rfl rfl dX0_dropOldest_43 ?_
    refine lv_iconst (v := (1 : Int32)) hx hb dX0_dropOldest_46 (by decide) ?_
    refine lv_isub hx hb dX0_dropOldest_47 ?_
    refine g_put hx hb hF hts hown hK hP hS (hLx.h (f := 10) (by decide)) (gC10 _ _ _ _) gcl0 iX0_dropOldest_X0 tyX0 tyX0_ok nmX0 1 (by decide) mX0_dropOldest_2 rfl rfl rfl rfl (Nat.lt_of_lt_of_eq (by decide : 1 < 2) rfl) rfl dX0_dropOldest_48 (fun M17 e18 H locs hP hS => ?_)
    have hw := hw M17 e18
    exact g_vret hx hb hr hlocks hw hP hS dX0_dropOldest_51
  have hlX0_dropOldest_L9 : ∀ (n3 : Nat) (M4 : gW) (x2_5 : Int32) (H : Heap) (locs : List Loc) (ls : Array Slot), wX0_dropOldest_L9 (fun M12 x2_13 => ((vp_in (3 : Int32) 4) ∧ (∀ M15 : gW, M15 = gU M12 11 0 (upd (M12 11 0) (3 : Int32).toNatClampNeg (nI ((M0 11 0 (0 : Int32).toNatClampNeg).toNatClampNeg))) → (∀ M17 : gW, M17 = gU M15 10 0 (upd (M15 10 0) 1 ((M15 10 0 1) - (1 : Int32))) → (K M17))))) n3 M4 x2_5 → va_P D vwCl (gL E ad L M4) H → va_S A s.heap H locs → lv_has ls 3 [(0, .ref (ad 10 0)), (1, .ref (ad 1 ((M0 11 0 (0 : Int32).toNatClampNeg).toNatClampNeg))), (2, .int x2_5)] → W p l e (headSpec wsX0_dropOldest rmX0_dropOldest).room s m (([.ref (ad 10 0)] : List Value).toArray) below meth c H locs 0 0 (MQ below (gQv D E ad L A K) ([.ref (ad 10 0)] : List Value).toArray s 0 0 A) (F0 m 9 ls []) := by
    intro n3
    induction n3 with
    | zero => intro M4 x2_5 H locs ls hw; exact False.elim hw
    | succ n3 ihn3 =>
      intro M4 x2_5 H locs ls hw hP hS hl
      refine lv_iload_n hx hb dX0_dropOldest_9 rfl (lv_at hl 2 rfl) ?_
      refine lv_iconst (v := (4 : Int32)) hx hb dX0_dropOldest_10 (by decide) ?_
      refine lv_icmp_ge (tgt := 34) hx hb dX0_dropOldest_11 (by decide) (fun c6 => ?_) (fun c6 => ?_)
      · have hw := hw.1 c6
        exact hxX0_dropOldest_L9_0 _ _ _ _ _ hw hP hS (lv_sub hl [0, 1, 2] rfl)
      · have hw := hw.2 c6
        refine lv_aload_n hx hb dX0_dropOldest_14 rfl (lv_at hl 0 rfl) ?_
        refine g_get (v := .ref (ad 11 0)) hx hb hts hown hK hP (hLx.h (f := 10) (by decide)) (gC10 _ _ _ _) gcl0 iX0_dropOldest_X0 0 (by decide) mX0_dropOldest_1 rfl rfl dX0_dropOldest_15 ?_
        refine lv_iload_n hx hb dX0_dropOldest_18 rfl (lv_at hl 2 rfl) ?_
        refine lv_iconst (v := (1 : Int32)) hx hb dX0_dropOldest_19 (by decide) ?_
        refine lv_isub hx hb dX0_dropOldest_20 ?_
        refine lv_aload_n hx hb dX0_dropOldest_21 rfl (lv_at hl 0 rfl) ?_
        refine g_get (v := .ref (ad 11 0)) hx hb hts hown hK hP (hLx.h (f := 10) (by decide)) (gC10 _ _ _ _) gcl0 iX0_dropOldest_X0 0 (by decide) mX0_dropOldest_1 rfl rfl dX0_dropOldest_22 ?_
        refine lv_iload_n hx hb dX0_dropOldest_25 rfl (lv_at hl 2 rfl) ?_
        have hb7 := hw.1
        have hw := hw.2
        refine g_alds hx hb hK hP (hLx.h (f := 11) (by decide)) hb7 dX0_dropOldest_26 ?_
        have hb8 := hw.1
        have hw := hw.2
        have hb9 := hw.1
        have hw := hw.2
        refine g_asts hx hb hF hK hP hS (hLx.h (f := 11) (by decide)) hb8 (hLx.h (f := 1) hb8) hb9 dX0_dropOldest_27 (fun M10 e11 H locs hP hS => ?_)
        have hw := hw M10 e11
        refine lv_iinc (v := (x2_5 + (1 : Int32))) (lv' := [(2, .int (x2_5 + (1 : Int32))), (0, .ref (ad 10 0)), (1, .ref (ad 1 ((M0 11 0 (0 : Int32).toNatClampNeg).toNatClampNeg)))]) hx hb dX0_dropOldest_28 hl (k := 2) rfl rfl (by decide) rfl (fun ls hl => ?_)
        refine lv_goto (tgt := 9) hx hb dX0_dropOldest_31 (by decide) ?_
        exact ihn3 _ _ _ _ _ hw hP hS (lv_sub hl [1, 2, 0] rfl)
  exact hlX0_dropOldest_L9 n19 _ _ _ _ _ hw hP hS (lv_sub hl [2, 1, 0] rfl)
abbrev rmX1_copyFrom : Room := { frames := 1, cells := 0, slots := 0, locals := 18 }
theorem eX1_copyFrom : yX1_copyFrom.cls = RX1 ∧ yX1_copyFrom.cls ≠ "java/lang/invoke/MethodHandle" ∧ yX1_copyFrom.cls ≠ "java/lang/invoke/VarHandle" ∧ (parseMethodDescriptor yX1_copyFrom.desc).map (fun d => d.parameters.length) = some 1 := by decide +kernel
theorem iX1_copyFrom_X1 : ∀ w ∈ wsX10, w ∈ wsX1_copyFrom := fun _ h => List.mem_cons_of_mem _ (List.mem_append_right _ (h))
theorem mX1_copyFrom_1 : Cond.fieldLink RX1 9 "PracticeSheets$Practice" "tries" "[I" ∈ wsX1_copyFrom := List.mem_of_getElem? (i := 1) rfl
theorem mX1_copyFrom_2 : Cond.methodLink RX1 63 arraycopyName ∈ wsX1_copyFrom := List.mem_of_getElem? (i := 2) rfl
theorem mX1_copyFrom_3 : Cond.native arraycopyName ∈ wsX1_copyFrom := List.mem_of_getElem? (i := 3) rfl
theorem mX1_copyFrom_4 : Cond.static arraycopyName ∈ wsX1_copyFrom := List.mem_of_getElem? (i := 4) rfl
theorem mX1_copyFrom_5 : Cond.initialized "java/lang/System" ∈ wsX1_copyFrom := List.mem_of_getElem? (i := 5) rfl
theorem mX1_copyFrom_6 : Cond.fieldLink RX1 15 "PracticeSheets$Practice" "slips" "[I" ∈ wsX1_copyFrom := List.mem_of_getElem? (i := 6) rfl
set_option maxHeartbeats 4000000 in
set_option maxRecDepth 100000 in
theorem qX1_copyFrom (l : Launch) (D : va_G) (E : Nat → ClassId) (ad : Nat → Nat → Nat) (L : List (Nat × Nat)) (A : Nat → Prop) (hF : gF E ad L A) (hLx : gLx L) (M0 : gW) (k0 : Nat) (k1 : Nat) (hk0 : k0 < gN 2) (hk1 : k1 < gN 2) (K : gW → Prop) (hw : wX1_copyFrom M0 k0 k1 K) : Met l yX1_copyFrom wsX1_copyFrom rmX1_copyFrom (va_Pc [.ref (ad 2 k0), .ref (ad 2 k1)] (gPre D E ad L M0)) (gQv D E ad L A K) 0 0 A := by
  refine Met.ofW (cc := cX1_copyFrom) (maxL := 2) (ret := none) (by decide) rfl ?_
  intro p e s m args below meth c s₁ B hml hv
  obtain ⟨rfl, hP, hK, hN⟩ := hv
  have hx := B.exec
  have hb := B.bytes
  have hr := B.returns
  have hts := atoms_spec (ws := wsX1_copyFrom) B.pre
  have hown : s.vm.findClass RX1 = some m.cls := findClass_of_methodNamed B.named
  have hlocks := B.notSynchronized
  have S : CallFix p m c cX1_copyFrom 2 s ([.ref (ad 2 k0), .ref (ad 2 k1)] : List Value).toArray wsX1_copyFrom RX1 := ⟨hx, hb, hml, hown, hts⟩
  have hS : va_S A s.heap s.heap [] := va_S.rf
  have hl := lv_entry ([.ref (ad 2 k0), .ref (ad 2 k1)]) (n := 2) (Nat.le_of_ble_eq_true rfl)
  rw [lg_entry_eq]
  generalize (lg_sl ([.ref (ad 2 k0), .ref (ad 2 k1)]) ++ List.replicate (2 - (lg_sl ([.ref (ad 2 k0), .ref (ad 2 k1)])).length) Slot.unset).toArray = ls at hl ⊢
  have hl : lv_has ls 2 [(0, .ref (ad 2 k0)), (1, .ref (ad 2 k1))] := hl
  refine lv_aload_n hx hb dX1_copyFrom_0 rfl (lv_at hl 1 rfl) ?_
  refine g_get (v := .ref (ad 3 k1)) hx hb hts hown hK hP (hLx.h (f := 2) hk1) (gC2 _ _ _ _) gcl1 iX1_copyFrom_X1 0 (by decide) mX1_copyFrom_1 rfl rfl dX1_copyFrom_1 ?_
  refine lv_iconst (v := (0 : Int32)) hx hb dX1_copyFrom_4 (by decide) ?_
  refine lv_aload_n hx hb dX1_copyFrom_5 rfl (lv_at hl 0 rfl) ?_
  refine g_get (v := .ref (ad 3 k0)) hx hb hts hown hK hP (hLx.h (f := 2) hk0) (gC2 _ _ _ _) gcl1 iX1_copyFrom_X1 0 (by decide) mX1_copyFrom_1 rfl rfl dX1_copyFrom_6 ?_
  refine lv_iconst (v := (0 : Int32)) hx hb dX1_copyFrom_9 (by decide) ?_
  refine lv_sipush (v := (702 : Int32)) hx hb dX1_copyFrom_10 (by decide) ?_
  refine g_cpy hx hb (by rw [hml]; exact hl.1.symm) hF hown hts mX1_copyFrom_2 mX1_copyFrom_3 mX1_copyFrom_4 mX1_copyFrom_5 hK hP hS (hLx.h (f := 3) hk1) (hLx.h (f := 3) hk0) (gC3 _ _ _ _) (fun r => gC3 _ _ _ r) (n := (702 : Int32)) (N := 702) (n0 := 702) (n1 := 702) (by decide) (by decide) (by decide) (by decide) (by exact Nat.le_of_ble_eq_true rfl) (by exact Nat.le_of_ble_eq_true rfl) dX1_copyFrom_13 (fun M1 e2 H locs hP hS => ?_)
  have hw := hw M1 e2
  refine lv_aload_n hx hb dX1_copyFrom_16 rfl (lv_at hl 1 rfl) ?_
  refine g_get (v := .ref (ad 4 k1)) hx hb hts hown hK hP (hLx.h (f := 2) hk1) (gC2 _ _ _ _) gcl1 iX1_copyFrom_X1 1 (by decide) mX1_copyFrom_6 rfl rfl dX1_copyFrom_17 ?_
  refine lv_iconst (v := (0 : Int32)) hx hb dX1_copyFrom_20 (by decide) ?_
  refine lv_aload_n hx hb dX1_copyFrom_21 rfl (lv_at hl 0 rfl) ?_
  refine g_get (v := .ref (ad 4 k0)) hx hb hts hown hK hP (hLx.h (f := 2) hk0) (gC2 _ _ _ _) gcl1 iX1_copyFrom_X1 1 (by decide) mX1_copyFrom_6 rfl rfl dX1_copyFrom_22 ?_
  refine lv_iconst (v := (0 : Int32)) hx hb dX1_copyFrom_25 (by decide) ?_
  refine lv_sipush (v := (702 : Int32)) hx hb dX1_copyFrom_26 (by decide) ?_
  refine g_cpy hx hb (by rw [hml]; exact hl.1.symm) hF hown hts mX1_copyFrom_2 mX1_copyFrom_3 mX1_copyFrom_4 mX1_copyFrom_5 hK hP hS (hLx.h (f := 4) hk1) (hLx.h (f := 4) hk0) (gC4 _ _ _ _) (fun r => gC4 _ _ _ r) (n := (702 : Int32)) (N := 702) (n0 := 702) (n1 := 702) (by decide) (by decide) (by decide) (by decide) (by exact Nat.le_of_ble_eq_true rfl) (by exact Nat.le_of_ble_eq_true rfl) dX1_copyFrom_29 (fun M3 e4 H locs hP hS => ?_)
  have hw := hw M3 e4
  exact g_vret hx hb hr hlocks hw hP hS dX1_copyFrom_32
abbrev rmX6_copyFrom : Room := { frames := 1, cells := 0, slots := 0, locals := 18 }
theorem eX6_copyFrom : yX6_copyFrom.cls = RX6 ∧ yX6_copyFrom.cls ≠ "java/lang/invoke/MethodHandle" ∧ yX6_copyFrom.cls ≠ "java/lang/invoke/VarHandle" ∧ (parseMethodDescriptor yX6_copyFrom.desc).map (fun d => d.parameters.length) = some 1 := by decide +kernel
theorem iX6_copyFrom_X6 : ∀ w ∈ wsX60, w ∈ wsX6_copyFrom := fun _ h => List.mem_cons_of_mem _ (List.mem_append_right _ (h))
theorem mX6_copyFrom_1 : Cond.fieldLink RX6 9 "PracticeSheets$Word" "letters" "[I" ∈ wsX6_copyFrom := List.mem_of_getElem? (i := 1) rfl
theorem mX6_copyFrom_2 : Cond.methodLink RX6 37 arraycopyName ∈ wsX6_copyFrom := List.mem_of_getElem? (i := 2) rfl
theorem mX6_copyFrom_3 : Cond.native arraycopyName ∈ wsX6_copyFrom := List.mem_of_getElem? (i := 3) rfl
theorem mX6_copyFrom_4 : Cond.static arraycopyName ∈ wsX6_copyFrom := List.mem_of_getElem? (i := 4) rfl
theorem mX6_copyFrom_5 : Cond.initialized "java/lang/System" ∈ wsX6_copyFrom := List.mem_of_getElem? (i := 5) rfl
theorem mX6_copyFrom_6 : Cond.fieldLink RX6 15 "PracticeSheets$Word" "parts" "[I" ∈ wsX6_copyFrom := List.mem_of_getElem? (i := 6) rfl
theorem mX6_copyFrom_7 : Cond.fieldLink RX6 18 "PracticeSheets$Word" "length" "I" ∈ wsX6_copyFrom := List.mem_of_getElem? (i := 7) rfl
theorem mX6_copyFrom_8 : Cond.fieldLink RX6 22 "PracticeSheets$Word" "partCount" "I" ∈ wsX6_copyFrom := List.mem_of_getElem? (i := 8) rfl
set_option maxHeartbeats 4000000 in
set_option maxRecDepth 100000 in
theorem qX6_copyFrom (l : Launch) (D : va_G) (E : Nat → ClassId) (ad : Nat → Nat → Nat) (L : List (Nat × Nat)) (A : Nat → Prop) (hF : gF E ad L A) (hLx : gLx L) (M0 : gW) (k0 : Nat) (k1 : Nat) (hk0 : k0 < gN 7) (hk1 : k1 < gN 7) (K : gW → Prop) (hw : wX6_copyFrom M0 k0 k1 K) : Met l yX6_copyFrom wsX6_copyFrom rmX6_copyFrom (va_Pc [.ref (ad 7 k0), .ref (ad 7 k1)] (gPre D E ad L M0)) (gQv D E ad L A K) 0 0 A := by
  refine Met.ofW (cc := cX6_copyFrom) (maxL := 2) (ret := none) (by decide) rfl ?_
  intro p e s m args below meth c s₁ B hml hv
  obtain ⟨rfl, hP, hK, hN⟩ := hv
  have hx := B.exec
  have hb := B.bytes
  have hr := B.returns
  have hts := atoms_spec (ws := wsX6_copyFrom) B.pre
  have hown : s.vm.findClass RX6 = some m.cls := findClass_of_methodNamed B.named
  have hlocks := B.notSynchronized
  have S : CallFix p m c cX6_copyFrom 2 s ([.ref (ad 7 k0), .ref (ad 7 k1)] : List Value).toArray wsX6_copyFrom RX6 := ⟨hx, hb, hml, hown, hts⟩
  have hS : va_S A s.heap s.heap [] := va_S.rf
  have hl := lv_entry ([.ref (ad 7 k0), .ref (ad 7 k1)]) (n := 2) (Nat.le_of_ble_eq_true rfl)
  rw [lg_entry_eq]
  generalize (lg_sl ([.ref (ad 7 k0), .ref (ad 7 k1)]) ++ List.replicate (2 - (lg_sl ([.ref (ad 7 k0), .ref (ad 7 k1)])).length) Slot.unset).toArray = ls at hl ⊢
  have hl : lv_has ls 2 [(0, .ref (ad 7 k0)), (1, .ref (ad 7 k1))] := hl
  refine lv_aload_n hx hb dX6_copyFrom_0 rfl (lv_at hl 1 rfl) ?_
  refine g_get (v := .ref (ad 8 k1)) hx hb hts hown hK hP (hLx.h (f := 7) hk1) (gC7 _ _ _ _) gcl6 iX6_copyFrom_X6 0 (by decide) mX6_copyFrom_1 rfl rfl dX6_copyFrom_1 ?_
  refine lv_iconst (v := (0 : Int32)) hx hb dX6_copyFrom_4 (by decide) ?_
  refine lv_aload_n hx hb dX6_copyFrom_5 rfl (lv_at hl 0 rfl) ?_
  refine g_get (v := .ref (ad 8 k0)) hx hb hts hown hK hP (hLx.h (f := 7) hk0) (gC7 _ _ _ _) gcl6 iX6_copyFrom_X6 0 (by decide) mX6_copyFrom_1 rfl rfl dX6_copyFrom_6 ?_
  refine lv_iconst (v := (0 : Int32)) hx hb dX6_copyFrom_9 (by decide) ?_
  refine lv_bipush (v := (15 : Int32)) hx hb dX6_copyFrom_10 (by decide) ?_
  refine g_cpy hx hb (by rw [hml]; exact hl.1.symm) hF hown hts mX6_copyFrom_2 mX6_copyFrom_3 mX6_copyFrom_4 mX6_copyFrom_5 hK hP hS (hLx.h (f := 8) hk1) (hLx.h (f := 8) hk0) (gC8 _ _ _ _) (fun r => gC8 _ _ _ r) (n := (15 : Int32)) (N := 15) (n0 := 15) (n1 := 15) (by decide) (by decide) (by decide) (by decide) (by exact Nat.le_of_ble_eq_true rfl) (by exact Nat.le_of_ble_eq_true rfl) dX6_copyFrom_12 (fun M1 e2 H locs hP hS => ?_)
  have hw := hw M1 e2
  refine lv_aload_n hx hb dX6_copyFrom_15 rfl (lv_at hl 1 rfl) ?_
  refine g_get (v := .ref (ad 9 k1)) hx hb hts hown hK hP (hLx.h (f := 7) hk1) (gC7 _ _ _ _) gcl6 iX6_copyFrom_X6 1 (by decide) mX6_copyFrom_6 rfl rfl dX6_copyFrom_16 ?_
  refine lv_iconst (v := (0 : Int32)) hx hb dX6_copyFrom_19 (by decide) ?_
  refine lv_aload_n hx hb dX6_copyFrom_20 rfl (lv_at hl 0 rfl) ?_
  refine g_get (v := .ref (ad 9 k0)) hx hb hts hown hK hP (hLx.h (f := 7) hk0) (gC7 _ _ _ _) gcl6 iX6_copyFrom_X6 1 (by decide) mX6_copyFrom_6 rfl rfl dX6_copyFrom_21 ?_
  refine lv_iconst (v := (0 : Int32)) hx hb dX6_copyFrom_24 (by decide) ?_
  refine lv_bipush (v := (29 : Int32)) hx hb dX6_copyFrom_25 (by decide) ?_
  refine g_cpy hx hb (by rw [hml]; exact hl.1.symm) hF hown hts mX6_copyFrom_2 mX6_copyFrom_3 mX6_copyFrom_4 mX6_copyFrom_5 hK hP hS (hLx.h (f := 9) hk1) (hLx.h (f := 9) hk0) (gC9 _ _ _ _) (fun r => gC9 _ _ _ r) (n := (29 : Int32)) (N := 29) (n0 := 29) (n1 := 29) (by decide) (by decide) (by decide) (by decide) (by exact Nat.le_of_ble_eq_true rfl) (by exact Nat.le_of_ble_eq_true rfl) dX6_copyFrom_27 (fun M3 e4 H locs hP hS => ?_)
  have hw := hw M3 e4
  refine lv_aload_n hx hb dX6_copyFrom_30 rfl (lv_at hl 0 rfl) ?_
  refine lv_aload_n hx hb dX6_copyFrom_31 rfl (lv_at hl 1 rfl) ?_
  refine g_get (v := .int (M3 7 k1 2)) hx hb hts hown hK hP (hLx.h (f := 7) hk1) (gC7 _ _ _ _) gcl6 iX6_copyFrom_X6 2 (by decide) mX6_copyFrom_7 rfl rfl dX6_copyFrom_32 ?_
  refine g_put hx hb hF hts hown hK hP hS (hLx.h (f := 7) hk0) (gC7 _ _ _ _) gcl6 iX6_copyFrom_X6 tyX6 tyX6_ok nmX6 2 (by decide) mX6_copyFrom_7 rfl rfl rfl rfl (Nat.lt_of_lt_of_eq (by decide : 2 < 4) rfl) rfl dX6_copyFrom_35 (fun M5 e6 H locs hP hS => ?_)
  have hw := hw M5 e6
  refine lv_aload_n hx hb dX6_copyFrom_38 rfl (lv_at hl 0 rfl) ?_
  refine lv_aload_n hx hb dX6_copyFrom_39 rfl (lv_at hl 1 rfl) ?_
  refine g_get (v := .int (M5 7 k1 3)) hx hb hts hown hK hP (hLx.h (f := 7) hk1) (gC7 _ _ _ _) gcl6 iX6_copyFrom_X6 3 (by decide) mX6_copyFrom_8 rfl rfl dX6_copyFrom_40 ?_
  refine g_put hx hb hF hts hown hK hP hS (hLx.h (f := 7) hk0) (gC7 _ _ _ _) gcl6 iX6_copyFrom_X6 tyX6 tyX6_ok nmX6 3 (by decide) mX6_copyFrom_8 rfl rfl rfl rfl (Nat.lt_of_lt_of_eq (by decide : 3 < 4) rfl) rfl dX6_copyFrom_43 (fun M7 e8 H locs hP hS => ?_)
  have hw := hw M7 e8
  exact g_vret hx hb hr hlocks hw hP hS dX6_copyFrom_46
abbrev rmX7_copyFrom : Room := { frames := 2, cells := 0, slots := 0, locals := 39 }
theorem eX7_copyFrom : yX7_copyFrom.cls = RX7 ∧ yX7_copyFrom.cls ≠ "java/lang/invoke/MethodHandle" ∧ yX7_copyFrom.cls ≠ "java/lang/invoke/VarHandle" ∧ (parseMethodDescriptor yX7_copyFrom.desc).map (fun d => d.parameters.length) = some 1 := by decide +kernel
theorem iX7_copyFrom_X7 : ∀ w ∈ wsX70, w ∈ wsX7_copyFrom := fun _ h => List.mem_cons_of_mem _ (List.mem_append_left _ (List.mem_append_right _ (h)))
theorem mX7_copyFrom_1 : Cond.fieldLink RX7 18 "PracticeSheets$WordList" "size" "I" ∈ wsX7_copyFrom := List.mem_of_getElem? (i := 1) rfl
theorem mX7_copyFrom_2 : Cond.fieldLink RX7 11 "PracticeSheets$WordList" "words" "[LPracticeSheets$Word;" ∈ wsX7_copyFrom := List.mem_of_getElem? (i := 2) rfl
set_option maxHeartbeats 4000000 in
set_option maxRecDepth 100000 in
theorem qX7_copyFrom (l : Launch) (D : va_G) (E : Nat → ClassId) (ad : Nat → Nat → Nat) (L : List (Nat × Nat)) (A : Nat → Prop) (hF : gF E ad L A) (hLx : gLx L) (M0 : gW) (k0 : Nat) (k1 : Nat) (hk0 : k0 < gN 5) (hk1 : k1 < gN 5) (K : gW → Prop) (hw : wX7_copyFrom M0 k0 k1 K) : Met l yX7_copyFrom wsX7_copyFrom rmX7_copyFrom (va_Pc [.ref (ad 5 k0), .ref (ad 5 k1)] (gPre D E ad L M0)) (gQv D E ad L A K) 0 0 A := by
  refine Met.ofW (cc := cX7_copyFrom) (maxL := 3) (ret := none) (by decide) rfl ?_
  intro p e s m args below meth c s₁ B hml hv
  obtain ⟨rfl, hP, hK, hN⟩ := hv
  have hx := B.exec
  have hb := B.bytes
  have hr := B.returns
  have hts := atoms_spec (ws := wsX7_copyFrom) B.pre
  have hown : s.vm.findClass RX7 = some m.cls := findClass_of_methodNamed B.named
  have hlocks := B.notSynchronized
  have S : CallFix p m c cX7_copyFrom 3 s ([.ref (ad 5 k0), .ref (ad 5 k1)] : List Value).toArray wsX7_copyFrom RX7 := ⟨hx, hb, hml, hown, hts⟩
  have hS : va_S A s.heap s.heap [] := va_S.rf
  have hl := lv_entry ([.ref (ad 5 k0), .ref (ad 5 k1)]) (n := 3) (Nat.le_of_ble_eq_true rfl)
  rw [lg_entry_eq]
  generalize (lg_sl ([.ref (ad 5 k0), .ref (ad 5 k1)]) ++ List.replicate (3 - (lg_sl ([.ref (ad 5 k0), .ref (ad 5 k1)])).length) Slot.unset).toArray = ls at hl ⊢
  have hl : lv_has ls 3 [(0, .ref (ad 5 k0)), (1, .ref (ad 5 k1))] := hl
  refine lv_iconst (v := (0 : Int32)) hx hb dX7_copyFrom_0 (by decide) ?_
  refine lv_istore_n (lv' := [(2, .int (0 : Int32)), (0, .ref (ad 5 k0)), (1, .ref (ad 5 k1))]) hx hb dX7_copyFrom_1 rfl hl (by decide) rfl (fun ls hl => ?_)
  obtain ⟨n12, hw⟩ := hw
  have hxX7_copyFrom_L2_0 : ∀ (M8 : gW) (x2_9 : Int32) (H : Heap) (locs : List Loc) (ls : Array Slot), (∀ M10 : gW, M10 = gU M8 5 k0 (upd (M8 5 k0) 1 (M8 5 k1 1)) → (K M10)) → va_P D vwCl (gL E ad L M8) H → va_S A s.heap H locs → lv_has ls 3 [(0, .ref (ad 5 k0)), (1, .ref (ad 5 k1)), (2, .int x2_9)] → W p l e (headSpec wsX7_copyFrom rmX7_copyFrom).room s m (([.ref (ad 5 k0), .ref (ad 5 k1)] : List Value).toArray) below meth c H locs 0 0 (MQ below (gQv D E ad L A K) ([.ref (ad 5 k0), .ref (ad 5 k1)] : List Value).toArray s 0 0 A) (F0 m 31 ls []) := by
    intro M8 x2_9 H locs ls hw hP hS hl
    refine lv_aload_n hx hb dX7_copyFrom_31 rfl (lv_at hl 0 rfl) ?_
    refine lv_aload_n hx hb dX7_copyFrom_32 rfl (lv_at hl 1 rfl) ?_
    refine g_get (v := .int (M8 5 k1 1)) hx hb hts hown hK hP (hLx.h (f := 5) hk1) (gC5 _ _ _ _) gcl7 iX7_copyFrom_X7 1 (by decide) mX7_copyFrom_1 rfl rfl dX7_copyFrom_33 ?_
    refine g_put hx hb hF hts hown hK hP hS (hLx.h (f := 5) hk0) (gC5 _ _ _ _) gcl7 iX7_copyFrom_X7 tyX7 tyX7_ok nmX7 1 (by decide) mX7_copyFrom_1 rfl rfl rfl rfl (Nat.lt_of_lt_of_eq (by decide : 1 < 2) rfl) rfl dX7_copyFrom_36 (fun M10 e11 H locs hP hS => ?_)
    have hw := hw M10 e11
    exact g_vret hx hb hr hlocks hw hP hS dX7_copyFrom_39
  have hlX7_copyFrom_L2 : ∀ (n1 : Nat) (M2 : gW) (x2_3 : Int32) (H : Heap) (locs : List Loc) (ls : Array Slot), wX7_copyFrom_L2 k0 k1 (fun M8 x2_9 => (∀ M10 : gW, M10 = gU M8 5 k0 (upd (M8 5 k0) 1 (M8 5 k1 1)) → (K M10))) n1 M2 x2_3 → va_P D vwCl (gL E ad L M2) H → va_S A s.heap H locs → lv_has ls 3 [(0, .ref (ad 5 k0)), (1, .ref (ad 5 k1)), (2, .int x2_3)] → W p l e (headSpec wsX7_copyFrom rmX7_copyFrom).room s m (([.ref (ad 5 k0), .ref (ad 5 k1)] : List Value).toArray) below meth c H locs 0 0 (MQ below (gQv D E ad L A K) ([.ref (ad 5 k0), .ref (ad 5 k1)] : List Value).toArray s 0 0 A) (F0 m 2 ls []) := by
    intro n1
    induction n1 with
    | zero => intro M2 x2_3 H locs ls hw; exact False.elim hw
    | succ n1 ihn1 =>
      intro M2 x2_3 H locs ls hw hP hS hl
      refine lv_iload_n hx hb dX7_copyFrom_2 rfl (lv_at hl 2 rfl) ?_
      refine lv_aload_n hx hb dX7_copyFrom_3 rfl (lv_at hl 1 rfl) ?_
      refine g_get (v := .int (M2 5 k1 1)) hx hb hts hown hK hP (hLx.h (f := 5) hk1) (gC5 _ _ _ _) gcl7 iX7_copyFrom_X7 1 (by decide) mX7_copyFrom_1 rfl rfl dX7_copyFrom_4 ?_
      refine lv_icmp_ge (tgt := 31) hx hb dX7_copyFrom_7 (by decide) (fun c4 => ?_) (fun c4 => ?_)
      · have hw := hw.1 c4
        exact hxX7_copyFrom_L2_0 _ _ _ _ _ hw hP hS (lv_sub hl [0, 1, 2] rfl)
      · have hw := hw.2 c4
        refine lv_aload_n hx hb dX7_copyFrom_10 rfl (lv_at hl 0 rfl) ?_
        refine g_get (v := .ref (ad 6 k0)) hx hb hts hown hK hP (hLx.h (f := 5) hk0) (gC5 _ _ _ _) gcl7 iX7_copyFrom_X7 0 (by decide) mX7_copyFrom_2 rfl rfl dX7_copyFrom_11 ?_
        refine lv_iload_n hx hb dX7_copyFrom_14 rfl (lv_at hl 2 rfl) ?_
        have hb5 := hw.1
        have hw := hw.2
        refine g_aldw hx hb hK hP (hLx.h (f := 6) hk0) hb5 dX7_copyFrom_15 ?_
        refine lv_aload_n hx hb dX7_copyFrom_16 rfl (lv_at hl 1 rfl) ?_
        refine g_get (v := .ref (ad 6 k1)) hx hb hts hown hK hP (hLx.h (f := 5) hk1) (gC5 _ _ _ _) gcl7 iX7_copyFrom_X7 0 (by decide) mX7_copyFrom_2 rfl rfl dX7_copyFrom_17 ?_
        refine lv_iload_n hx hb dX7_copyFrom_20 rfl (lv_at hl 2 rfl) ?_
        have hb6 := hw.1
        have hw := hw.2
        refine g_aldw hx hb hK hP (hLx.h (f := 6) hk1) hb6 dX7_copyFrom_21 ?_
        refine g_Vv (As := [.ref (ad 7 (20 * k1 + x2_3.toNatClampNeg))]) (rest := []) S hK hN hP hS (qX6_copyFrom l D E ad L A hF hLx M2 (20 * k0 + x2_3.toNatClampNeg) (20 * k1 + x2_3.toNatClampNeg) (g_word hk0 hb5) (g_word hk1 hb6) _ hw) (cwV 1 hts gX7_copyFrom_X6_copyFrom rfl rfl rfl eX6_copyFrom ⟨Nat.le_of_ble_eq_true rfl, Nat.le_of_ble_eq_true rfl⟩) (hLx.h (f := 7) (g_word hk0 hb5)) (gC7 _ _ _ _) gcl6 rfl rfl rfl hl.1 (Nat.le_of_ble_eq_true rfl) ⟨Nat.zero_le _, Nat.zero_le _⟩ dX7_copyFrom_22 (fun M7 H locs hw hP hS => ?_)
        refine lv_iinc (v := (x2_3 + (1 : Int32))) (lv' := [(2, .int (x2_3 + (1 : Int32))), (0, .ref (ad 5 k0)), (1, .ref (ad 5 k1))]) hx hb dX7_copyFrom_25 hl (k := 2) rfl rfl (by decide) rfl (fun ls hl => ?_)
        refine lv_goto (tgt := 2) hx hb dX7_copyFrom_28 (by decide) ?_
        exact ihn1 _ _ _ _ _ hw hP hS (lv_sub hl [1, 2, 0] rfl)
  exact hlX7_copyFrom_L2 n12 _ _ _ _ _ hw hP hS (lv_sub hl [1, 2, 0] rfl)
abbrev rmX4_copyFrom : Room := { frames := 3, cells := 0, slots := 0, locals := 61 }
theorem eX4_copyFrom : yX4_copyFrom.cls = RX4 ∧ yX4_copyFrom.cls ≠ "java/lang/invoke/MethodHandle" ∧ yX4_copyFrom.cls ≠ "java/lang/invoke/VarHandle" ∧ (parseMethodDescriptor yX4_copyFrom.desc).map (fun d => d.parameters.length) = some 1 := by decide +kernel
theorem iX4_copyFrom_X4 : ∀ w ∈ wsX40, w ∈ wsX4_copyFrom := fun _ h => List.mem_cons_of_mem _ (List.mem_append_left _ (List.mem_append_left _ (List.mem_append_left _ (List.mem_append_right _ (h)))))
theorem mX4_copyFrom_1 : Cond.fieldLink RX4 12 "PracticeSheets$State" "practice" "LPracticeSheets$Practice;" ∈ wsX4_copyFrom := List.mem_of_getElem? (i := 1) rfl
theorem mX4_copyFrom_2 : Cond.fieldLink RX4 21 "PracticeSheets$State" "words" "LPracticeSheets$WordList;" ∈ wsX4_copyFrom := List.mem_of_getElem? (i := 2) rfl
theorem mX4_copyFrom_3 : Cond.fieldLink RX4 25 "PracticeSheets$State" "weeks" "I" ∈ wsX4_copyFrom := List.mem_of_getElem? (i := 3) rfl
theorem mX4_copyFrom_4 : Cond.fieldLink RX4 29 "PracticeSheets$State" "untried" "I" ∈ wsX4_copyFrom := List.mem_of_getElem? (i := 4) rfl
theorem mX4_copyFrom_5 : Cond.fieldLink RX4 32 "PracticeSheets$State" "written" "I" ∈ wsX4_copyFrom := List.mem_of_getElem? (i := 5) rfl
theorem mX4_copyFrom_6 : Cond.fieldLink RX4 35 "PracticeSheets$State" "slips" "I" ∈ wsX4_copyFrom := List.mem_of_getElem? (i := 6) rfl
theorem mX4_copyFrom_7 : Cond.fieldLink RX4 38 "PracticeSheets$State" "sheets" "I" ∈ wsX4_copyFrom := List.mem_of_getElem? (i := 7) rfl
set_option maxHeartbeats 4000000 in
set_option maxRecDepth 100000 in
theorem qX4_copyFrom (l : Launch) (D : va_G) (E : Nat → ClassId) (ad : Nat → Nat → Nat) (L : List (Nat × Nat)) (A : Nat → Prop) (hF : gF E ad L A) (hLx : gLx L) (M0 : gW) (k0 : Nat) (k1 : Nat) (hk0 : k0 < gN 1) (hk1 : k1 < gN 1) (K : gW → Prop) (hw : wX4_copyFrom M0 k0 k1 K) : Met l yX4_copyFrom wsX4_copyFrom rmX4_copyFrom (va_Pc [.ref (ad 1 k0), .ref (ad 1 k1)] (gPre D E ad L M0)) (gQv D E ad L A K) 0 0 A := by
  refine Met.ofW (cc := cX4_copyFrom) (maxL := 2) (ret := none) (by decide) rfl ?_
  intro p e s m args below meth c s₁ B hml hv
  obtain ⟨rfl, hP, hK, hN⟩ := hv
  have hx := B.exec
  have hb := B.bytes
  have hr := B.returns
  have hts := atoms_spec (ws := wsX4_copyFrom) B.pre
  have hown : s.vm.findClass RX4 = some m.cls := findClass_of_methodNamed B.named
  have hlocks := B.notSynchronized
  have S : CallFix p m c cX4_copyFrom 2 s ([.ref (ad 1 k0), .ref (ad 1 k1)] : List Value).toArray wsX4_copyFrom RX4 := ⟨hx, hb, hml, hown, hts⟩
  have hS : va_S A s.heap s.heap [] := va_S.rf
  have hl := lv_entry ([.ref (ad 1 k0), .ref (ad 1 k1)]) (n := 2) (Nat.le_of_ble_eq_true rfl)
  rw [lg_entry_eq]
  generalize (lg_sl ([.ref (ad 1 k0), .ref (ad 1 k1)]) ++ List.replicate (2 - (lg_sl ([.ref (ad 1 k0), .ref (ad 1 k1)])).length) Slot.unset).toArray = ls at hl ⊢
  have hl : lv_has ls 2 [(0, .ref (ad 1 k0)), (1, .ref (ad 1 k1))] := hl
  refine lv_aload_n hx hb dX4_copyFrom_0 rfl (lv_at hl 0 rfl) ?_
  refine g_get (v := .ref (ad 2 k0)) hx hb hts hown hK hP (hLx.h (f := 1) hk0) (gC1 _ _ _ _) gcl4 iX4_copyFrom_X4 0 (by decide) mX4_copyFrom_1 rfl rfl dX4_copyFrom_1 ?_
  refine lv_aload_n hx hb dX4_copyFrom_4 rfl (lv_at hl 1 rfl) ?_
  refine g_get (v := .ref (ad 2 k1)) hx hb hts hown hK hP (hLx.h (f := 1) hk1) (gC1 _ _ _ _) gcl4 iX4_copyFrom_X4 0 (by decide) mX4_copyFrom_1 rfl rfl dX4_copyFrom_5 ?_
  refine g_Vv (As := [.ref (ad 2 k1)]) (rest := []) S hK hN hP hS (qX1_copyFrom l D E ad L A hF hLx M0 k0 k1 hk0 hk1 _ hw) (cwV 1 hts gX4_copyFrom_X1_copyFrom rfl rfl rfl eX1_copyFrom ⟨Nat.le_of_ble_eq_true rfl, Nat.le_of_ble_eq_true rfl⟩) (hLx.h (f := 2) hk0) (gC2 _ _ _ _) gcl1 rfl rfl rfl hl.1 (Nat.le_of_ble_eq_true rfl) ⟨Nat.zero_le _, Nat.zero_le _⟩ dX4_copyFrom_8 (fun M1 H locs hw hP hS => ?_)
  refine lv_aload_n hx hb dX4_copyFrom_11 rfl (lv_at hl 0 rfl) ?_
  refine g_get (v := .ref (ad 5 k0)) hx hb hts hown hK hP (hLx.h (f := 1) hk0) (gC1 _ _ _ _) gcl4 iX4_copyFrom_X4 1 (by decide) mX4_copyFrom_2 rfl rfl dX4_copyFrom_12 ?_
  refine lv_aload_n hx hb dX4_copyFrom_15 rfl (lv_at hl 1 rfl) ?_
  refine g_get (v := .ref (ad 5 k1)) hx hb hts hown hK hP (hLx.h (f := 1) hk1) (gC1 _ _ _ _) gcl4 iX4_copyFrom_X4 1 (by decide) mX4_copyFrom_2 rfl rfl dX4_copyFrom_16 ?_
  refine g_Vv (As := [.ref (ad 5 k1)]) (rest := []) S hK hN hP hS (qX7_copyFrom l D E ad L A hF hLx M1 k0 k1 hk0 hk1 _ hw) (cwV 1 hts gX4_copyFrom_X7_copyFrom rfl rfl rfl eX7_copyFrom ⟨Nat.le_of_ble_eq_true rfl, Nat.le_of_ble_eq_true rfl⟩) (hLx.h (f := 5) hk0) (gC5 _ _ _ _) gcl7 rfl rfl rfl hl.1 (Nat.le_of_ble_eq_true rfl) ⟨Nat.zero_le _, Nat.zero_le _⟩ dX4_copyFrom_19 (fun M2 H locs hw hP hS => ?_)
  refine lv_aload_n hx hb dX4_copyFrom_22 rfl (lv_at hl 0 rfl) ?_
  refine lv_aload_n hx hb dX4_copyFrom_23 rfl (lv_at hl 1 rfl) ?_
  refine g_get (v := .int (M2 1 k1 2)) hx hb hts hown hK hP (hLx.h (f := 1) hk1) (gC1 _ _ _ _) gcl4 iX4_copyFrom_X4 2 (by decide) mX4_copyFrom_3 rfl rfl dX4_copyFrom_24 ?_
  refine g_put hx hb hF hts hown hK hP hS (hLx.h (f := 1) hk0) (gC1 _ _ _ _) gcl4 iX4_copyFrom_X4 tyX4 tyX4_ok nmX4 2 (by decide) mX4_copyFrom_3 rfl rfl rfl rfl (Nat.lt_of_lt_of_eq (by decide : 2 < 7) rfl) rfl dX4_copyFrom_27 (fun M3 e4 H locs hP hS => ?_)
  have hw := hw M3 e4
  refine lv_aload_n hx hb dX4_copyFrom_30 rfl (lv_at hl 0 rfl) ?_
  refine lv_aload_n hx hb dX4_copyFrom_31 rfl (lv_at hl 1 rfl) ?_
  refine g_get (v := .int (M3 1 k1 3)) hx hb hts hown hK hP (hLx.h (f := 1) hk1) (gC1 _ _ _ _) gcl4 iX4_copyFrom_X4 3 (by decide) mX4_copyFrom_4 rfl rfl dX4_copyFrom_32 ?_
  refine g_put hx hb hF hts hown hK hP hS (hLx.h (f := 1) hk0) (gC1 _ _ _ _) gcl4 iX4_copyFrom_X4 tyX4 tyX4_ok nmX4 3 (by decide) mX4_copyFrom_4 rfl rfl rfl rfl (Nat.lt_of_lt_of_eq (by decide : 3 < 7) rfl) rfl dX4_copyFrom_35 (fun M5 e6 H locs hP hS => ?_)
  have hw := hw M5 e6
  refine lv_aload_n hx hb dX4_copyFrom_38 rfl (lv_at hl 0 rfl) ?_
  refine lv_aload_n hx hb dX4_copyFrom_39 rfl (lv_at hl 1 rfl) ?_
  refine g_get (v := .int (M5 1 k1 4)) hx hb hts hown hK hP (hLx.h (f := 1) hk1) (gC1 _ _ _ _) gcl4 iX4_copyFrom_X4 4 (by decide) mX4_copyFrom_5 rfl rfl dX4_copyFrom_40 ?_
  refine g_put hx hb hF hts hown hK hP hS (hLx.h (f := 1) hk0) (gC1 _ _ _ _) gcl4 iX4_copyFrom_X4 tyX4 tyX4_ok nmX4 4 (by decide) mX4_copyFrom_5 rfl rfl rfl rfl (Nat.lt_of_lt_of_eq (by decide : 4 < 7) rfl) rfl dX4_copyFrom_43 (fun M7 e8 H locs hP hS => ?_)
  have hw := hw M7 e8
  refine lv_aload_n hx hb dX4_copyFrom_46 rfl (lv_at hl 0 rfl) ?_
  refine lv_aload_n hx hb dX4_copyFrom_47 rfl (lv_at hl 1 rfl) ?_
  refine g_get (v := .int (M7 1 k1 5)) hx hb hts hown hK hP (hLx.h (f := 1) hk1) (gC1 _ _ _ _) gcl4 iX4_copyFrom_X4 5 (by decide) mX4_copyFrom_6 rfl rfl dX4_copyFrom_48 ?_
  refine g_put hx hb hF hts hown hK hP hS (hLx.h (f := 1) hk0) (gC1 _ _ _ _) gcl4 iX4_copyFrom_X4 tyX4 tyX4_ok nmX4 5 (by decide) mX4_copyFrom_6 rfl rfl rfl rfl (Nat.lt_of_lt_of_eq (by decide : 5 < 7) rfl) rfl dX4_copyFrom_51 (fun M9 e10 H locs hP hS => ?_)
  have hw := hw M9 e10
  refine lv_aload_n hx hb dX4_copyFrom_54 rfl (lv_at hl 0 rfl) ?_
  refine lv_aload_n hx hb dX4_copyFrom_55 rfl (lv_at hl 1 rfl) ?_
  refine g_get (v := .int (M9 1 k1 6)) hx hb hts hown hK hP (hLx.h (f := 1) hk1) (gC1 _ _ _ _) gcl4 iX4_copyFrom_X4 6 (by decide) mX4_copyFrom_7 rfl rfl dX4_copyFrom_56 ?_
  refine g_put hx hb hF hts hown hK hP hS (hLx.h (f := 1) hk0) (gC1 _ _ _ _) gcl4 iX4_copyFrom_X4 tyX4 tyX4_ok nmX4 6 (by decide) mX4_copyFrom_7 rfl rfl rfl rfl (Nat.lt_of_lt_of_eq (by decide : 6 < 7) rfl) rfl dX4_copyFrom_59 (fun M11 e12 H locs hP hS => ?_)
  have hw := hw M11 e12
  exact g_vret hx hb hr hlocks hw hP hS dX4_copyFrom_62
abbrev rmX0_remember : Room := { frames := 4, cells := 0, slots := 0, locals := 82 }
theorem eX0_remember : yX0_remember.cls = RX0 ∧ yX0_remember.cls ≠ "java/lang/invoke/MethodHandle" ∧ yX0_remember.cls ≠ "java/lang/invoke/VarHandle" ∧ (parseMethodDescriptor yX0_remember.desc).map (fun d => d.parameters.length) = some 1 := by decide +kernel
theorem iX0_remember_X0 : ∀ w ∈ wsX00, w ∈ wsX0_remember := fun _ h => List.mem_cons_of_mem _ (List.mem_append_left _ (List.mem_append_left _ (List.mem_append_left _ (List.mem_append_left _ (List.mem_append_right _ (h))))))
theorem mX0_remember_1 : Cond.fieldLink RX0 18 "PracticeSheets$History" "size" "I" ∈ wsX0_remember := List.mem_of_getElem? (i := 1) rfl
theorem mX0_remember_2 : Cond.fieldLink RX0 11 "PracticeSheets$History" "states" "[LPracticeSheets$State;" ∈ wsX0_remember := List.mem_of_getElem? (i := 2) rfl
set_option maxHeartbeats 4000000 in
set_option maxRecDepth 100000 in
theorem qX0_remember (l : Launch) (D : va_G) (E : Nat → ClassId) (ad : Nat → Nat → Nat) (L : List (Nat × Nat)) (A : Nat → Prop) (hF : gF E ad L A) (hLx : gLx L) (M0 : gW) (k1 : Nat) (hk1 : k1 < gN 1) (K : gW → Prop) (hw : wX0_remember M0 k1 K) : Met l yX0_remember wsX0_remember rmX0_remember (va_Pc [.ref (ad 10 0), .ref (ad 1 k1)] (gPre D E ad L M0)) (gQv D E ad L A K) 0 0 A := by
  refine Met.ofW (cc := cX0_remember) (maxL := 2) (ret := none) (by decide) rfl ?_
  intro p e s m args below meth c s₁ B hml hv
  obtain ⟨rfl, hP, hK, hN⟩ := hv
  have hx := B.exec
  have hb := B.bytes
  have hr := B.returns
  have hts := atoms_spec (ws := wsX0_remember) B.pre
  have hown : s.vm.findClass RX0 = some m.cls := findClass_of_methodNamed B.named
  have hlocks := B.notSynchronized
  have S : CallFix p m c cX0_remember 2 s ([.ref (ad 10 0), .ref (ad 1 k1)] : List Value).toArray wsX0_remember RX0 := ⟨hx, hb, hml, hown, hts⟩
  have hS : va_S A s.heap s.heap [] := va_S.rf
  have hl := lv_entry ([.ref (ad 10 0), .ref (ad 1 k1)]) (n := 2) (Nat.le_of_ble_eq_true rfl)
  rw [lg_entry_eq]
  generalize (lg_sl ([.ref (ad 10 0), .ref (ad 1 k1)]) ++ List.replicate (2 - (lg_sl ([.ref (ad 10 0), .ref (ad 1 k1)])).length) Slot.unset).toArray = ls at hl ⊢
  have hl : lv_has ls 2 [(0, .ref (ad 10 0)), (1, .ref (ad 1 k1))] := hl
  refine lv_aload_n hx hb dX0_remember_0 rfl (lv_at hl 0 rfl) ?_
  refine g_get (v := .int (M0 10 0 1)) hx hb hts hown hK hP (hLx.h (f := 10) (by decide)) (gC10 _ _ _ _) gcl0 iX0_remember_X0 1 (by decide) mX0_remember_1 rfl rfl dX0_remember_1 ?_
  refine lv_iconst (v := (4 : Int32)) hx hb dX0_remember_4 (by decide) ?_
  refine lv_icmp_lt (tgt := 12) hx hb dX0_remember_5 (by decide) (fun c1 => ?_) (fun c1 => ?_)
  · have hw := hw.1 c1
    refine lv_aload_n hx hb dX0_remember_12 rfl (lv_at hl 0 rfl) ?_
    refine g_get (v := .ref (ad 11 0)) hx hb hts hown hK hP (hLx.h (f := 10) (by decide)) (gC10 _ _ _ _) gcl0 iX0_remember_X0 0 (by decide) mX0_remember_2 rfl rfl dX0_remember_13 ?_
    refine lv_aload_n hx hb dX0_remember_16 rfl (lv_at hl 0 rfl) ?_
    refine g_get (v := .int (M0 10 0 1)) hx hb hts hown hK hP (hLx.h (f := 10) (by decide)) (gC10 _ _ _ _) gcl0 iX0_remember_X0 1 (by decide) mX0_remember_1 rfl rfl dX0_remember_17 ?_
    have hb2 := hw.1
    have hw := hw.2
    refine g_alds hx hb hK hP (hLx.h (f := 11) (by decide)) hb2 dX0_remember_20 ?_
    have hb3 := hw.1
    have hw := hw.2
    refine lv_aload_n hx hb dX0_remember_21 rfl (lv_at hl 1 rfl) ?_
    refine g_Vv (As := [.ref (ad 1 k1)]) (rest := []) S hK hN hP hS (qX4_copyFrom l D E ad L A hF hLx M0 ((M0 11 0 (M0 10 0 1).toNatClampNeg).toNatClampNeg) k1 hb3 hk1 _ hw) (cwV 1 hts gX0_remember_X4_copyFrom rfl rfl rfl eX4_copyFrom ⟨Nat.le_of_ble_eq_true rfl, Nat.le_of_ble_eq_true rfl⟩) (hLx.h (f := 1) hb3) (gC1 _ _ _ _) gcl4 rfl rfl rfl hl.1 (Nat.le_of_ble_eq_true rfl) ⟨Nat.zero_le _, Nat.zero_le _⟩ dX0_remember_22 (fun M4 H locs hw hP hS => ?_)
    refine lv_aload_n hx hb dX0_remember_25 rfl (lv_at hl 0 rfl) ?_
    refine lv_dup hx hb dX0_remember_26 rfl ?_
    refine g_get (v := .int (M4 10 0 1)) hx hb hts hown hK hP (hLx.h (f := 10) (by decide)) (gC10 _ _ _ _) gcl0 iX0_remember_X0 1 (by decide) mX0_remember_1 rfl rfl dX0_remember_27 ?_
    refine lv_iconst (v := (1 : Int32)) hx hb dX0_remember_30 (by decide) ?_
    refine lv_iadd hx hb dX0_remember_31 ?_
    refine g_put hx hb hF hts hown hK hP hS (hLx.h (f := 10) (by decide)) (gC10 _ _ _ _) gcl0 iX0_remember_X0 tyX0 tyX0_ok nmX0 1 (by decide) mX0_remember_1 rfl rfl rfl rfl (Nat.lt_of_lt_of_eq (by decide : 1 < 2) rfl) rfl dX0_remember_32 (fun M5 e6 H locs hP hS => ?_)
    have hw := hw M5 e6
    exact g_vret hx hb hr hlocks hw hP hS dX0_remember_35
  · have hw := hw.2 c1
    refine lv_aload_n hx hb dX0_remember_8 rfl (lv_at hl 0 rfl) ?_
    refine g_Vv (As := []) (rest := []) S hK hN hP hS (qX0_dropOldest l D E ad L A hF hLx M0  _ hw) (cwV 0 hts gX0_remember_X0_dropOldest rfl rfl rfl eX0_dropOldest ⟨Nat.le_of_ble_eq_true rfl, Nat.le_of_ble_eq_true rfl⟩) (hLx.h (f := 10) (by decide)) (gC10 _ _ _ _) gcl0 rfl rfl rfl hl.1 (Nat.le_of_ble_eq_true rfl) ⟨Nat.zero_le _, Nat.zero_le _⟩ dX0_remember_9 (fun M7 H locs hw hP hS => ?_)
    refine lv_aload_n hx hb dX0_remember_12 rfl (lv_at hl 0 rfl) ?_
    refine g_get (v := .ref (ad 11 0)) hx hb hts hown hK hP (hLx.h (f := 10) (by decide)) (gC10 _ _ _ _) gcl0 iX0_remember_X0 0 (by decide) mX0_remember_2 rfl rfl dX0_remember_13 ?_
    refine lv_aload_n hx hb dX0_remember_16 rfl (lv_at hl 0 rfl) ?_
    refine g_get (v := .int (M7 10 0 1)) hx hb hts hown hK hP (hLx.h (f := 10) (by decide)) (gC10 _ _ _ _) gcl0 iX0_remember_X0 1 (by decide) mX0_remember_1 rfl rfl dX0_remember_17 ?_
    have hb8 := hw.1
    have hw := hw.2
    refine g_alds hx hb hK hP (hLx.h (f := 11) (by decide)) hb8 dX0_remember_20 ?_
    have hb9 := hw.1
    have hw := hw.2
    refine lv_aload_n hx hb dX0_remember_21 rfl (lv_at hl 1 rfl) ?_
    refine g_Vv (As := [.ref (ad 1 k1)]) (rest := []) S hK hN hP hS (qX4_copyFrom l D E ad L A hF hLx M7 ((M7 11 0 (M7 10 0 1).toNatClampNeg).toNatClampNeg) k1 hb9 hk1 _ hw) (cwV 1 hts gX0_remember_X4_copyFrom rfl rfl rfl eX4_copyFrom ⟨Nat.le_of_ble_eq_true rfl, Nat.le_of_ble_eq_true rfl⟩) (hLx.h (f := 1) hb9) (gC1 _ _ _ _) gcl4 rfl rfl rfl hl.1 (Nat.le_of_ble_eq_true rfl) ⟨Nat.zero_le _, Nat.zero_le _⟩ dX0_remember_22 (fun M10 H locs hw hP hS => ?_)
    refine lv_aload_n hx hb dX0_remember_25 rfl (lv_at hl 0 rfl) ?_
    refine lv_dup hx hb dX0_remember_26 rfl ?_
    refine g_get (v := .int (M10 10 0 1)) hx hb hts hown hK hP (hLx.h (f := 10) (by decide)) (gC10 _ _ _ _) gcl0 iX0_remember_X0 1 (by decide) mX0_remember_1 rfl rfl dX0_remember_27 ?_
    refine lv_iconst (v := (1 : Int32)) hx hb dX0_remember_30 (by decide) ?_
    refine lv_iadd hx hb dX0_remember_31 ?_
    refine g_put hx hb hF hts hown hK hP hS (hLx.h (f := 10) (by decide)) (gC10 _ _ _ _) gcl0 iX0_remember_X0 tyX0 tyX0_ok nmX0 1 (by decide) mX0_remember_1 rfl rfl rfl rfl (Nat.lt_of_lt_of_eq (by decide : 1 < 2) rfl) rfl dX0_remember_32 (fun M11 e12 H locs hP hS => ?_)
    have hw := hw M11 e12
    exact g_vret hx hb hr hlocks hw hP hS dX0_remember_35
abbrev rmX0_takeBack : Room := { frames := 4, cells := 0, slots := 0, locals := 82 }
theorem eX0_takeBack : yX0_takeBack.cls = RX0 ∧ yX0_takeBack.cls ≠ "java/lang/invoke/MethodHandle" ∧ yX0_takeBack.cls ≠ "java/lang/invoke/VarHandle" ∧ (parseMethodDescriptor yX0_takeBack.desc).map (fun d => d.parameters.length) = some 1 := by decide +kernel
theorem iX0_takeBack_X0 : ∀ w ∈ wsX00, w ∈ wsX0_takeBack := fun _ h => List.mem_cons_of_mem _ (List.mem_append_left _ (List.mem_append_left _ (List.mem_append_left _ (List.mem_append_left _ (List.mem_append_right _ (h))))))
theorem mX0_takeBack_1 : Cond.fieldLink RX0 18 "PracticeSheets$History" "size" "I" ∈ wsX0_takeBack := List.mem_of_getElem? (i := 1) rfl
theorem mX0_takeBack_2 : Cond.fieldLink RX0 11 "PracticeSheets$History" "states" "[LPracticeSheets$State;" ∈ wsX0_takeBack := List.mem_of_getElem? (i := 2) rfl
set_option maxHeartbeats 4000000 in
set_option maxRecDepth 100000 in
theorem qX0_takeBack (l : Launch) (D : va_G) (E : Nat → ClassId) (ad : Nat → Nat → Nat) (L : List (Nat × Nat)) (A : Nat → Prop) (hF : gF E ad L A) (hLx : gLx L) (M0 : gW) (k1 : Nat) (hk1 : k1 < gN 1) (K : Int32 → gW → Prop) (hw : wX0_takeBack M0 k1 K) : Met l yX0_takeBack wsX0_takeBack rmX0_takeBack (va_Pc [.ref (ad 10 0), .ref (ad 1 k1)] (gPre D E ad L M0)) (gQi D E ad L A K) 0 0 A := by
  refine Met.ofW (cc := cX0_takeBack) (maxL := 2) (ret := (some .boolean)) (by decide) rfl ?_
  intro p e s m args below meth c s₁ B hml hv
  obtain ⟨rfl, hP, hK, hN⟩ := hv
  have hx := B.exec
  have hb := B.bytes
  have hr := B.returns
  have hts := atoms_spec (ws := wsX0_takeBack) B.pre
  have hown : s.vm.findClass RX0 = some m.cls := findClass_of_methodNamed B.named
  have hlocks := B.notSynchronized
  have S : CallFix p m c cX0_takeBack 2 s ([.ref (ad 10 0), .ref (ad 1 k1)] : List Value).toArray wsX0_takeBack RX0 := ⟨hx, hb, hml, hown, hts⟩
  have hS : va_S A s.heap s.heap [] := va_S.rf
  have hl := lv_entry ([.ref (ad 10 0), .ref (ad 1 k1)]) (n := 2) (Nat.le_of_ble_eq_true rfl)
  rw [lg_entry_eq]
  generalize (lg_sl ([.ref (ad 10 0), .ref (ad 1 k1)]) ++ List.replicate (2 - (lg_sl ([.ref (ad 10 0), .ref (ad 1 k1)])).length) Slot.unset).toArray = ls at hl ⊢
  have hl : lv_has ls 2 [(0, .ref (ad 10 0)), (1, .ref (ad 1 k1))] := hl
  refine lv_aload_n hx hb dX0_takeBack_0 rfl (lv_at hl 0 rfl) ?_
  refine g_get (v := .int (M0 10 0 1)) hx hb hts hown hK hP (hLx.h (f := 10) (by decide)) (gC10 _ _ _ _) gcl0 iX0_takeBack_X0 1 (by decide) mX0_takeBack_1 rfl rfl dX0_takeBack_1 ?_
  refine lv_if_ne (tgt := 9) hx hb dX0_takeBack_4 (by decide) (fun c1 => ?_) (fun c1 => ?_)
  · have hw := hw.2 c1
    refine lv_aload_n hx hb dX0_takeBack_9 rfl (lv_at hl 0 rfl) ?_
    refine lv_dup hx hb dX0_takeBack_10 rfl ?_
    refine g_get (v := .int (M0 10 0 1)) hx hb hts hown hK hP (hLx.h (f := 10) (by decide)) (gC10 _ _ _ _) gcl0 iX0_takeBack_X0 1 (by decide) mX0_takeBack_1 rfl rfl dX0_takeBack_11 ?_
    refine lv_iconst (v := (1 : Int32)) hx hb dX0_takeBack_14 (by decide) ?_
    refine lv_isub hx hb dX0_takeBack_15 ?_
    refine g_put hx hb hF hts hown hK hP hS (hLx.h (f := 10) (by decide)) (gC10 _ _ _ _) gcl0 iX0_takeBack_X0 tyX0 tyX0_ok nmX0 1 (by decide) mX0_takeBack_1 rfl rfl rfl rfl (Nat.lt_of_lt_of_eq (by decide : 1 < 2) rfl) rfl dX0_takeBack_16 (fun M2 e3 H locs hP hS => ?_)
    have hw := hw M2 e3
    refine lv_aload_n hx hb dX0_takeBack_19 rfl (lv_at hl 1 rfl) ?_
    refine lv_aload_n hx hb dX0_takeBack_20 rfl (lv_at hl 0 rfl) ?_
    refine g_get (v := .ref (ad 11 0)) hx hb hts hown hK hP (hLx.h (f := 10) (by decide)) (gC10 _ _ _ _) gcl0 iX0_takeBack_X0 0 (by decide) mX0_takeBack_2 rfl rfl dX0_takeBack_21 ?_
    refine lv_aload_n hx hb dX0_takeBack_24 rfl (lv_at hl 0 rfl) ?_
    refine g_get (v := .int (M2 10 0 1)) hx hb hts hown hK hP (hLx.h (f := 10) (by decide)) (gC10 _ _ _ _) gcl0 iX0_takeBack_X0 1 (by decide) mX0_takeBack_1 rfl rfl dX0_takeBack_25 ?_
    have hb4 := hw.1
    have hw := hw.2
    refine g_alds hx hb hK hP (hLx.h (f := 11) (by decide)) hb4 dX0_takeBack_28 ?_
    have hb5 := hw.1
    have hw := hw.2
    refine g_Vv (As := [.ref (ad 1 ((M2 11 0 (M2 10 0 1).toNatClampNeg).toNatClampNeg))]) (rest := []) S hK hN hP hS (qX4_copyFrom l D E ad L A hF hLx M2 k1 ((M2 11 0 (M2 10 0 1).toNatClampNeg).toNatClampNeg) hk1 hb5 _ hw) (cwV 1 hts gX0_takeBack_X4_copyFrom rfl rfl rfl eX4_copyFrom ⟨Nat.le_of_ble_eq_true rfl, Nat.le_of_ble_eq_true rfl⟩) (hLx.h (f := 1) hk1) (gC1 _ _ _ _) gcl4 rfl rfl rfl hl.1 (Nat.le_of_ble_eq_true rfl) ⟨Nat.zero_le _, Nat.zero_le _⟩ dX0_takeBack_29 (fun M6 H locs hw hP hS => ?_)
    refine lv_iconst (v := (1 : Int32)) hx hb dX0_takeBack_32 (by decide) ?_
    exact g_zret hx hb hr hlocks (by decide) hw hP hS dX0_takeBack_33
  · have hw := hw.1 c1
    refine lv_iconst (v := (0 : Int32)) hx hb dX0_takeBack_7 (by decide) ?_
    exact g_zret hx hb hr hlocks (by decide) hw hP hS dX0_takeBack_8
abbrev rmX8_isPart : Room := { frames := 0, cells := 0, slots := 0, locals := 0 }
theorem eX8_isPart : yX8_isPart.cls = RX8 ∧ yX8_isPart.cls ≠ "java/lang/invoke/MethodHandle" ∧ yX8_isPart.cls ≠ "java/lang/invoke/VarHandle" ∧ (parseMethodDescriptor yX8_isPart.desc).map (fun d => d.parameters.length) = some 1 := by decide +kernel
set_option maxHeartbeats 4000000 in
set_option maxRecDepth 100000 in
theorem qX8_isPart (l : Launch) (D : va_G) (E : Nat → ClassId) (ad : Nat → Nat → Nat) (L : List (Nat × Nat)) (A : Nat → Prop) (hF : gF E ad L A) (hLx : gLx L) (M0 : gW) (a0 : Int32)  (K : Int32 → gW → Prop) (hw : wX8_isPart M0 a0 K) : Met l yX8_isPart wsX8_isPart rmX8_isPart (va_Pc [.int a0] (gPre D E ad L M0)) (gQi D E ad L A K) 0 0 A := by
  refine Met.ofW (cc := cX8_isPart) (maxL := 1) (ret := (some .boolean)) (by decide) rfl ?_
  intro p e s m args below meth c s₁ B hml hv
  obtain ⟨rfl, hP, hK, hN⟩ := hv
  have hx := B.exec
  have hb := B.bytes
  have hr := B.returns
  have hts := atoms_spec (ws := wsX8_isPart) B.pre
  have hown : s.vm.findClass RX8 = some m.cls := findClass_of_methodNamed B.named
  have hlocks := B.notSynchronized
  have S : CallFix p m c cX8_isPart 1 s ([.int a0] : List Value).toArray wsX8_isPart RX8 := ⟨hx, hb, hml, hown, hts⟩
  have hS : va_S A s.heap s.heap [] := va_S.rf
  have hl := lv_entry ([.int a0]) (n := 1) (Nat.le_of_ble_eq_true rfl)
  rw [lg_entry_eq]
  generalize (lg_sl ([.int a0]) ++ List.replicate (1 - (lg_sl ([.int a0])).length) Slot.unset).toArray = ls at hl ⊢
  have hl : lv_has ls 1 [(0, .int a0)] := hl
  refine lv_iload_n hx hb dX8_isPart_0 rfl (lv_at hl 0 rfl) ?_
  refine lv_if_lt (tgt := 15) hx hb dX8_isPart_1 (by decide) (fun c1 => ?_) (fun c1 => ?_)
  · have hw := hw.1 c1
    refine lv_iconst (v := (0 : Int32)) hx hb dX8_isPart_15 (by decide) ?_
    exact g_zret hx hb hr hlocks (by decide) hw hP hS dX8_isPart_16
  · have hw := hw.2 c1
    refine lv_iload_n hx hb dX8_isPart_4 rfl (lv_at hl 0 rfl) ?_
    refine lv_sipush (v := (702 : Int32)) hx hb dX8_isPart_5 (by decide) ?_
    refine lv_icmp_ge (tgt := 15) hx hb dX8_isPart_8 (by decide) (fun c2 => ?_) (fun c2 => ?_)
    · have hw := hw.1 c2
      refine lv_iconst (v := (0 : Int32)) hx hb dX8_isPart_15 (by decide) ?_
      exact g_zret hx hb hr hlocks (by decide) hw hP hS dX8_isPart_16
    · have hw := hw.2 c2
      refine lv_iconst (v := (1 : Int32)) hx hb dX8_isPart_11 (by decide) ?_
      refine lv_goto (tgt := 16) hx hb dX8_isPart_12 (by decide) ?_
      exact g_zret hx hb hr hlocks (by decide) hw hP hS dX8_isPart_16
abbrev rmX1_triesOf : Room := { frames := 1, cells := 0, slots := 0, locals := 20 }
theorem eX1_triesOf : yX1_triesOf.cls = RX1 ∧ yX1_triesOf.cls ≠ "java/lang/invoke/MethodHandle" ∧ yX1_triesOf.cls ≠ "java/lang/invoke/VarHandle" ∧ (parseMethodDescriptor yX1_triesOf.desc).map (fun d => d.parameters.length) = some 1 := by decide +kernel
theorem mX1_triesOf_3 : Cond.initialized RX8 ∈ wsX1_triesOf := List.mem_of_getElem? (i := 3) rfl
theorem mX1_triesOf_2 : Cond.static yX8_isPart ∈ wsX1_triesOf := List.mem_of_getElem? (i := 2) rfl
theorem iX1_triesOf_X1 : ∀ w ∈ wsX10, w ∈ wsX1_triesOf := fun _ h => List.mem_cons_of_mem _ (List.mem_append_right _ (h))
theorem mX1_triesOf_1 : Cond.fieldLink RX1 9 "PracticeSheets$Practice" "tries" "[I" ∈ wsX1_triesOf := List.mem_of_getElem? (i := 1) rfl
set_option maxHeartbeats 4000000 in
set_option maxRecDepth 100000 in
theorem qX1_triesOf (l : Launch) (D : va_G) (E : Nat → ClassId) (ad : Nat → Nat → Nat) (L : List (Nat × Nat)) (A : Nat → Prop) (hF : gF E ad L A) (hLx : gLx L) (M0 : gW) (k0 : Nat) (a1 : Int32) (hk0 : k0 < gN 2) (K : Int32 → gW → Prop) (hw : wX1_triesOf M0 k0 a1 K) : Met l yX1_triesOf wsX1_triesOf rmX1_triesOf (va_Pc [.ref (ad 2 k0), .int a1] (gPre D E ad L M0)) (gQi D E ad L A K) 0 0 A := by
  refine Met.ofW (cc := cX1_triesOf) (maxL := 2) (ret := (some .int)) (by decide) rfl ?_
  intro p e s m args below meth c s₁ B hml hv
  obtain ⟨rfl, hP, hK, hN⟩ := hv
  have hx := B.exec
  have hb := B.bytes
  have hr := B.returns
  have hts := atoms_spec (ws := wsX1_triesOf) B.pre
  have hown : s.vm.findClass RX1 = some m.cls := findClass_of_methodNamed B.named
  have hlocks := B.notSynchronized
  have S : CallFix p m c cX1_triesOf 2 s ([.ref (ad 2 k0), .int a1] : List Value).toArray wsX1_triesOf RX1 := ⟨hx, hb, hml, hown, hts⟩
  have hS : va_S A s.heap s.heap [] := va_S.rf
  have hl := lv_entry ([.ref (ad 2 k0), .int a1]) (n := 2) (Nat.le_of_ble_eq_true rfl)
  rw [lg_entry_eq]
  generalize (lg_sl ([.ref (ad 2 k0), .int a1]) ++ List.replicate (2 - (lg_sl ([.ref (ad 2 k0), .int a1])).length) Slot.unset).toArray = ls at hl ⊢
  have hl : lv_has ls 2 [(0, .ref (ad 2 k0)), (1, .int a1)] := hl
  refine lv_iload_n hx hb dX1_triesOf_0 rfl (lv_at hl 1 rfl) ?_
  refine g_SNi (As := [.int a1]) (rest := []) S hK hN hP hS (qX8_isPart l D E ad L A hF hLx M0 a1  _ hw) ⟨va_cnB 1 hts gX1_triesOf_X8_isPart_n18 rfl rfl rfl (hN.2 1 _ rfl) (hts _ mX1_triesOf_3) eX8_isPart.2 ⟨Nat.le_of_ble_eq_true rfl, Nat.le_of_ble_eq_true rfl⟩, hts _ mX1_triesOf_2, trivial⟩ rfl rfl hl.1 (Nat.le_of_ble_eq_true rfl) ⟨Nat.zero_le _, Nat.zero_le _⟩ dX1_triesOf_1 (fun r2 M1 H locs hw hP hS => ?_)
  refine lv_if_eq (tgt := 16) hx hb dX1_triesOf_4 (by decide) (fun c3 => ?_) (fun c3 => ?_)
  · have hw := hw.1 c3
    refine lv_iconst (v := (0 : Int32)) hx hb dX1_triesOf_16 (by decide) ?_
    exact g_iret hx hb hr hlocks hw hP hS dX1_triesOf_17
  · have hw := hw.2 c3
    refine lv_aload_n hx hb dX1_triesOf_7 rfl (lv_at hl 0 rfl) ?_
    refine g_get (v := .ref (ad 3 k0)) hx hb hts hown hK hP (hLx.h (f := 2) hk0) (gC2 _ _ _ _) gcl1 iX1_triesOf_X1 0 (by decide) mX1_triesOf_1 rfl rfl dX1_triesOf_8 ?_
    refine lv_iload_n hx hb dX1_triesOf_11 rfl (lv_at hl 1 rfl) ?_
    have hb4 := hw.1
    have hw := hw.2
    refine g_iald hx hb hK hP (hLx.h (f := 3) hk0) (gC3 _ _ _ _) hb4 dX1_triesOf_12 ?_
    refine lv_goto (tgt := 17) hx hb dX1_triesOf_13 (by decide) ?_
    exact g_iret hx hb hr hlocks hw hP hS dX1_triesOf_17
abbrev rmX1_slipsOf : Room := { frames := 1, cells := 0, slots := 0, locals := 20 }
theorem eX1_slipsOf : yX1_slipsOf.cls = RX1 ∧ yX1_slipsOf.cls ≠ "java/lang/invoke/MethodHandle" ∧ yX1_slipsOf.cls ≠ "java/lang/invoke/VarHandle" ∧ (parseMethodDescriptor yX1_slipsOf.desc).map (fun d => d.parameters.length) = some 1 := by decide +kernel
theorem mX1_slipsOf_3 : Cond.initialized RX8 ∈ wsX1_slipsOf := List.mem_of_getElem? (i := 3) rfl
theorem mX1_slipsOf_2 : Cond.static yX8_isPart ∈ wsX1_slipsOf := List.mem_of_getElem? (i := 2) rfl
theorem iX1_slipsOf_X1 : ∀ w ∈ wsX10, w ∈ wsX1_slipsOf := fun _ h => List.mem_cons_of_mem _ (List.mem_append_right _ (h))
theorem mX1_slipsOf_1 : Cond.fieldLink RX1 15 "PracticeSheets$Practice" "slips" "[I" ∈ wsX1_slipsOf := List.mem_of_getElem? (i := 1) rfl
set_option maxHeartbeats 4000000 in
set_option maxRecDepth 100000 in
theorem qX1_slipsOf (l : Launch) (D : va_G) (E : Nat → ClassId) (ad : Nat → Nat → Nat) (L : List (Nat × Nat)) (A : Nat → Prop) (hF : gF E ad L A) (hLx : gLx L) (M0 : gW) (k0 : Nat) (a1 : Int32) (hk0 : k0 < gN 2) (K : Int32 → gW → Prop) (hw : wX1_slipsOf M0 k0 a1 K) : Met l yX1_slipsOf wsX1_slipsOf rmX1_slipsOf (va_Pc [.ref (ad 2 k0), .int a1] (gPre D E ad L M0)) (gQi D E ad L A K) 0 0 A := by
  refine Met.ofW (cc := cX1_slipsOf) (maxL := 2) (ret := (some .int)) (by decide) rfl ?_
  intro p e s m args below meth c s₁ B hml hv
  obtain ⟨rfl, hP, hK, hN⟩ := hv
  have hx := B.exec
  have hb := B.bytes
  have hr := B.returns
  have hts := atoms_spec (ws := wsX1_slipsOf) B.pre
  have hown : s.vm.findClass RX1 = some m.cls := findClass_of_methodNamed B.named
  have hlocks := B.notSynchronized
  have S : CallFix p m c cX1_slipsOf 2 s ([.ref (ad 2 k0), .int a1] : List Value).toArray wsX1_slipsOf RX1 := ⟨hx, hb, hml, hown, hts⟩
  have hS : va_S A s.heap s.heap [] := va_S.rf
  have hl := lv_entry ([.ref (ad 2 k0), .int a1]) (n := 2) (Nat.le_of_ble_eq_true rfl)
  rw [lg_entry_eq]
  generalize (lg_sl ([.ref (ad 2 k0), .int a1]) ++ List.replicate (2 - (lg_sl ([.ref (ad 2 k0), .int a1])).length) Slot.unset).toArray = ls at hl ⊢
  have hl : lv_has ls 2 [(0, .ref (ad 2 k0)), (1, .int a1)] := hl
  refine lv_iload_n hx hb dX1_slipsOf_0 rfl (lv_at hl 1 rfl) ?_
  refine g_SNi (As := [.int a1]) (rest := []) S hK hN hP hS (qX8_isPart l D E ad L A hF hLx M0 a1  _ hw) ⟨va_cnB 1 hts gX1_slipsOf_X8_isPart_n18 rfl rfl rfl (hN.2 1 _ rfl) (hts _ mX1_slipsOf_3) eX8_isPart.2 ⟨Nat.le_of_ble_eq_true rfl, Nat.le_of_ble_eq_true rfl⟩, hts _ mX1_slipsOf_2, trivial⟩ rfl rfl hl.1 (Nat.le_of_ble_eq_true rfl) ⟨Nat.zero_le _, Nat.zero_le _⟩ dX1_slipsOf_1 (fun r2 M1 H locs hw hP hS => ?_)
  refine lv_if_eq (tgt := 16) hx hb dX1_slipsOf_4 (by decide) (fun c3 => ?_) (fun c3 => ?_)
  · have hw := hw.1 c3
    refine lv_iconst (v := (0 : Int32)) hx hb dX1_slipsOf_16 (by decide) ?_
    exact g_iret hx hb hr hlocks hw hP hS dX1_slipsOf_17
  · have hw := hw.2 c3
    refine lv_aload_n hx hb dX1_slipsOf_7 rfl (lv_at hl 0 rfl) ?_
    refine g_get (v := .ref (ad 4 k0)) hx hb hts hown hK hP (hLx.h (f := 2) hk0) (gC2 _ _ _ _) gcl1 iX1_slipsOf_X1 1 (by decide) mX1_slipsOf_1 rfl rfl dX1_slipsOf_8 ?_
    refine lv_iload_n hx hb dX1_slipsOf_11 rfl (lv_at hl 1 rfl) ?_
    have hb4 := hw.1
    have hw := hw.2
    refine g_iald hx hb hK hP (hLx.h (f := 4) hk0) (gC4 _ _ _ _) hb4 dX1_slipsOf_12 ?_
    refine lv_goto (tgt := 17) hx hb dX1_slipsOf_13 (by decide) ?_
    exact g_iret hx hb hr hlocks hw hP hS dX1_slipsOf_17
abbrev rmX1_needOf : Room := { frames := 2, cells := 0, slots := 0, locals := 41 }
theorem eX1_needOf : yX1_needOf.cls = RX1 ∧ yX1_needOf.cls ≠ "java/lang/invoke/MethodHandle" ∧ yX1_needOf.cls ≠ "java/lang/invoke/VarHandle" ∧ (parseMethodDescriptor yX1_needOf.desc).map (fun d => d.parameters.length) = some 1 := by decide +kernel
theorem mX1_needOf_1 : Cond.methodLink RX1 29 Lib.Math.max.name ∈ wsX1_needOf := List.mem_of_getElem? (i := 1) rfl
theorem mX1_needOf_2 : Cond.static Lib.Math.max.name ∈ wsX1_needOf := List.mem_of_getElem? (i := 2) rfl
theorem mX1_needOf_3 : Cond.initialized "java/lang/Math" ∈ wsX1_needOf := List.mem_of_getElem? (i := 3) rfl
theorem mX1_needOf_4 : Cond.code Lib.Math.max.name Lib.Math.max.code 2 (some .int) ∈ wsX1_needOf := List.mem_of_getElem? (i := 4) rfl
set_option maxHeartbeats 4000000 in
set_option maxRecDepth 100000 in
theorem qX1_needOf (l : Launch) (D : va_G) (E : Nat → ClassId) (ad : Nat → Nat → Nat) (L : List (Nat × Nat)) (A : Nat → Prop) (hF : gF E ad L A) (hLx : gLx L) (M0 : gW) (k0 : Nat) (a1 : Int32) (hk0 : k0 < gN 2) (K : Int32 → gW → Prop) (hw : wX1_needOf M0 k0 a1 K) : Met l yX1_needOf wsX1_needOf rmX1_needOf (va_Pc [.ref (ad 2 k0), .int a1] (gPre D E ad L M0)) (gQi D E ad L A K) 0 0 A := by
  refine Met.ofW (cc := cX1_needOf) (maxL := 2) (ret := (some .int)) (by decide) rfl ?_
  intro p e s m args below meth c s₁ B hml hv
  obtain ⟨rfl, hP, hK, hN⟩ := hv
  have hx := B.exec
  have hb := B.bytes
  have hr := B.returns
  have hts := atoms_spec (ws := wsX1_needOf) B.pre
  have hown : s.vm.findClass RX1 = some m.cls := findClass_of_methodNamed B.named
  have hlocks := B.notSynchronized
  have S : CallFix p m c cX1_needOf 2 s ([.ref (ad 2 k0), .int a1] : List Value).toArray wsX1_needOf RX1 := ⟨hx, hb, hml, hown, hts⟩
  have hS : va_S A s.heap s.heap [] := va_S.rf
  have hl := lv_entry ([.ref (ad 2 k0), .int a1]) (n := 2) (Nat.le_of_ble_eq_true rfl)
  rw [lg_entry_eq]
  generalize (lg_sl ([.ref (ad 2 k0), .int a1]) ++ List.replicate (2 - (lg_sl ([.ref (ad 2 k0), .int a1])).length) Slot.unset).toArray = ls at hl ⊢
  have hl : lv_has ls 2 [(0, .ref (ad 2 k0)), (1, .int a1)] := hl
  refine lv_bipush (v := (100 : Int32)) hx hb dX1_needOf_0 (by decide) ?_
  refine lv_aload_n hx hb dX1_needOf_2 rfl (lv_at hl 0 rfl) ?_
  refine lv_iload_n hx hb dX1_needOf_3 rfl (lv_at hl 1 rfl) ?_
  refine g_Vi (As := [.int a1]) (rest := [.int (100 : Int32)]) S hK hN hP hS (qX1_slipsOf l D E ad L A hF hLx M0 k0 a1 hk0 _ hw) (cwV 1 hts gX1_needOf_X1_slipsOf rfl rfl rfl eX1_slipsOf ⟨Nat.le_of_ble_eq_true rfl, Nat.le_of_ble_eq_true rfl⟩) (hLx.h (f := 2) hk0) (gC2 _ _ _ _) gcl1 rfl rfl rfl hl.1 (Nat.le_of_ble_eq_true rfl) ⟨Nat.zero_le _, Nat.zero_le _⟩ dX1_needOf_4 (fun r2 M1 H locs hw hP hS => ?_)
  refine lv_imul hx hb dX1_needOf_7 ?_
  refine lv_aload_n hx hb dX1_needOf_8 rfl (lv_at hl 0 rfl) ?_
  refine lv_iload_n hx hb dX1_needOf_9 rfl (lv_at hl 1 rfl) ?_
  refine g_Vi (As := [.int a1]) (rest := [.int ((100 : Int32) * r2)]) S hK hN hP hS (qX1_triesOf l D E ad L A hF hLx M1 k0 a1 hk0 _ hw) (cwV 1 hts gX1_needOf_X1_triesOf rfl rfl rfl eX1_triesOf ⟨Nat.le_of_ble_eq_true rfl, Nat.le_of_ble_eq_true rfl⟩) (hLx.h (f := 2) hk0) (gC2 _ _ _ _) gcl1 rfl rfl rfl hl.1 (Nat.le_of_ble_eq_true rfl) ⟨Nat.zero_le _, Nat.zero_le _⟩ dX1_needOf_10 (fun r4 M3 H locs hw hP hS => ?_)
  refine lv_iconst (v := (0 : Int32)) hx hb dX1_needOf_13 (by decide) ?_
  refine va_mmax hx hb (by rw [hml]; exact hl.1.symm) hown (hts _ mX1_needOf_1) (hts _ mX1_needOf_2) (hts _ mX1_needOf_3) (hts _ mX1_needOf_4) (Nat.le_of_ble_eq_true rfl) (Nat.le_of_ble_eq_true rfl) (Nat.zero_le _) (Nat.zero_le _) dX1_needOf_14 ?_
  refine lv_iconst (v := (2 : Int32)) hx hb dX1_needOf_17 (by decide) ?_
  refine lv_iadd hx hb dX1_needOf_18 ?_
  have hb5 := hw.1
  have hw := hw.2
  refine lv_idiv hx hb dX1_needOf_19 hb5 ?_
  exact g_iret hx hb hr hlocks hw hP hS dX1_needOf_20
abbrev rmX1_isUntried : Room := { frames := 2, cells := 0, slots := 0, locals := 41 }
theorem eX1_isUntried : yX1_isUntried.cls = RX1 ∧ yX1_isUntried.cls ≠ "java/lang/invoke/MethodHandle" ∧ yX1_isUntried.cls ≠ "java/lang/invoke/VarHandle" ∧ (parseMethodDescriptor yX1_isUntried.desc).map (fun d => d.parameters.length) = some 1 := by decide +kernel
set_option maxHeartbeats 4000000 in
set_option maxRecDepth 100000 in
theorem qX1_isUntried (l : Launch) (D : va_G) (E : Nat → ClassId) (ad : Nat → Nat → Nat) (L : List (Nat × Nat)) (A : Nat → Prop) (hF : gF E ad L A) (hLx : gLx L) (M0 : gW) (k0 : Nat) (a1 : Int32) (hk0 : k0 < gN 2) (K : Int32 → gW → Prop) (hw : wX1_isUntried M0 k0 a1 K) : Met l yX1_isUntried wsX1_isUntried rmX1_isUntried (va_Pc [.ref (ad 2 k0), .int a1] (gPre D E ad L M0)) (gQi D E ad L A K) 0 0 A := by
  refine Met.ofW (cc := cX1_isUntried) (maxL := 2) (ret := (some .boolean)) (by decide) rfl ?_
  intro p e s m args below meth c s₁ B hml hv
  obtain ⟨rfl, hP, hK, hN⟩ := hv
  have hx := B.exec
  have hb := B.bytes
  have hr := B.returns
  have hts := atoms_spec (ws := wsX1_isUntried) B.pre
  have hown : s.vm.findClass RX1 = some m.cls := findClass_of_methodNamed B.named
  have hlocks := B.notSynchronized
  have S : CallFix p m c cX1_isUntried 2 s ([.ref (ad 2 k0), .int a1] : List Value).toArray wsX1_isUntried RX1 := ⟨hx, hb, hml, hown, hts⟩
  have hS : va_S A s.heap s.heap [] := va_S.rf
  have hl := lv_entry ([.ref (ad 2 k0), .int a1]) (n := 2) (Nat.le_of_ble_eq_true rfl)
  rw [lg_entry_eq]
  generalize (lg_sl ([.ref (ad 2 k0), .int a1]) ++ List.replicate (2 - (lg_sl ([.ref (ad 2 k0), .int a1])).length) Slot.unset).toArray = ls at hl ⊢
  have hl : lv_has ls 2 [(0, .ref (ad 2 k0)), (1, .int a1)] := hl
  refine lv_aload_n hx hb dX1_isUntried_0 rfl (lv_at hl 0 rfl) ?_
  refine lv_iload_n hx hb dX1_isUntried_1 rfl (lv_at hl 1 rfl) ?_
  refine g_Vi (As := [.int a1]) (rest := []) S hK hN hP hS (qX1_triesOf l D E ad L A hF hLx M0 k0 a1 hk0 _ hw) (cwV 1 hts gX1_isUntried_X1_triesOf rfl rfl rfl eX1_triesOf ⟨Nat.le_of_ble_eq_true rfl, Nat.le_of_ble_eq_true rfl⟩) (hLx.h (f := 2) hk0) (gC2 _ _ _ _) gcl1 rfl rfl rfl hl.1 (Nat.le_of_ble_eq_true rfl) ⟨Nat.zero_le _, Nat.zero_le _⟩ dX1_isUntried_2 (fun r2 M1 H locs hw hP hS => ?_)
  refine lv_if_ne (tgt := 12) hx hb dX1_isUntried_5 (by decide) (fun c3 => ?_) (fun c3 => ?_)
  · have hw := hw.2 c3
    refine lv_iconst (v := (0 : Int32)) hx hb dX1_isUntried_12 (by decide) ?_
    exact g_zret hx hb hr hlocks (by decide) hw hP hS dX1_isUntried_13
  · have hw := hw.1 c3
    refine lv_iconst (v := (1 : Int32)) hx hb dX1_isUntried_8 (by decide) ?_
    refine lv_goto (tgt := 13) hx hb dX1_isUntried_9 (by decide) ?_
    exact g_zret hx hb hr hlocks (by decide) hw hP hS dX1_isUntried_13
abbrev rmX1_addTry : Room := { frames := 1, cells := 0, slots := 0, locals := 20 }
theorem eX1_addTry : yX1_addTry.cls = RX1 ∧ yX1_addTry.cls ≠ "java/lang/invoke/MethodHandle" ∧ yX1_addTry.cls ≠ "java/lang/invoke/VarHandle" ∧ (parseMethodDescriptor yX1_addTry.desc).map (fun d => d.parameters.length) = some 1 := by decide +kernel
theorem mX1_addTry_3 : Cond.initialized RX8 ∈ wsX1_addTry := List.mem_of_getElem? (i := 3) rfl
theorem mX1_addTry_2 : Cond.static yX8_isPart ∈ wsX1_addTry := List.mem_of_getElem? (i := 2) rfl
theorem iX1_addTry_X1 : ∀ w ∈ wsX10, w ∈ wsX1_addTry := fun _ h => List.mem_cons_of_mem _ (List.mem_append_right _ (h))
theorem mX1_addTry_1 : Cond.fieldLink RX1 9 "PracticeSheets$Practice" "tries" "[I" ∈ wsX1_addTry := List.mem_of_getElem? (i := 1) rfl
set_option maxHeartbeats 4000000 in
set_option maxRecDepth 100000 in
theorem qX1_addTry (l : Launch) (D : va_G) (E : Nat → ClassId) (ad : Nat → Nat → Nat) (L : List (Nat × Nat)) (A : Nat → Prop) (hF : gF E ad L A) (hLx : gLx L) (M0 : gW) (k0 : Nat) (a1 : Int32) (hk0 : k0 < gN 2) (K : gW → Prop) (hw : wX1_addTry M0 k0 a1 K) : Met l yX1_addTry wsX1_addTry rmX1_addTry (va_Pc [.ref (ad 2 k0), .int a1] (gPre D E ad L M0)) (gQv D E ad L A K) 0 0 A := by
  refine Met.ofW (cc := cX1_addTry) (maxL := 2) (ret := none) (by decide) rfl ?_
  intro p e s m args below meth c s₁ B hml hv
  obtain ⟨rfl, hP, hK, hN⟩ := hv
  have hx := B.exec
  have hb := B.bytes
  have hr := B.returns
  have hts := atoms_spec (ws := wsX1_addTry) B.pre
  have hown : s.vm.findClass RX1 = some m.cls := findClass_of_methodNamed B.named
  have hlocks := B.notSynchronized
  have S : CallFix p m c cX1_addTry 2 s ([.ref (ad 2 k0), .int a1] : List Value).toArray wsX1_addTry RX1 := ⟨hx, hb, hml, hown, hts⟩
  have hS : va_S A s.heap s.heap [] := va_S.rf
  have hl := lv_entry ([.ref (ad 2 k0), .int a1]) (n := 2) (Nat.le_of_ble_eq_true rfl)
  rw [lg_entry_eq]
  generalize (lg_sl ([.ref (ad 2 k0), .int a1]) ++ List.replicate (2 - (lg_sl ([.ref (ad 2 k0), .int a1])).length) Slot.unset).toArray = ls at hl ⊢
  have hl : lv_has ls 2 [(0, .ref (ad 2 k0)), (1, .int a1)] := hl
  refine lv_iload_n hx hb dX1_addTry_0 rfl (lv_at hl 1 rfl) ?_
  refine g_SNi (As := [.int a1]) (rest := []) S hK hN hP hS (qX8_isPart l D E ad L A hF hLx M0 a1  _ hw) ⟨va_cnB 1 hts gX1_addTry_X8_isPart_n18 rfl rfl rfl (hN.2 1 _ rfl) (hts _ mX1_addTry_3) eX8_isPart.2 ⟨Nat.le_of_ble_eq_true rfl, Nat.le_of_ble_eq_true rfl⟩, hts _ mX1_addTry_2, trivial⟩ rfl rfl hl.1 (Nat.le_of_ble_eq_true rfl) ⟨Nat.zero_le _, Nat.zero_le _⟩ dX1_addTry_1 (fun r2 M1 H locs hw hP hS => ?_)
  refine lv_if_eq (tgt := 29) hx hb dX1_addTry_4 (by decide) (fun c3 => ?_) (fun c3 => ?_)
  · have hw := hw.1 c3
    exact g_vret hx hb hr hlocks hw hP hS dX1_addTry_29
  · have hw := hw.2 c3
    refine lv_aload_n hx hb dX1_addTry_7 rfl (lv_at hl 0 rfl) ?_
    refine g_get (v := .ref (ad 3 k0)) hx hb hts hown hK hP (hLx.h (f := 2) hk0) (gC2 _ _ _ _) gcl1 iX1_addTry_X1 0 (by decide) mX1_addTry_1 rfl rfl dX1_addTry_8 ?_
    refine lv_iload_n hx hb dX1_addTry_11 rfl (lv_at hl 1 rfl) ?_
    have hb4 := hw.1
    have hw := hw.2
    refine g_iald hx hb hK hP (hLx.h (f := 3) hk0) (gC3 _ _ _ _) hb4 dX1_addTry_12 ?_
    refine lv_sipush (v := (9999 : Int32)) hx hb dX1_addTry_13 (by decide) ?_
    refine lv_icmp_ge (tgt := 29) hx hb dX1_addTry_16 (by decide) (fun c5 => ?_) (fun c5 => ?_)
    · have hw := hw.1 c5
      exact g_vret hx hb hr hlocks hw hP hS dX1_addTry_29
    · have hw := hw.2 c5
      refine lv_aload_n hx hb dX1_addTry_19 rfl (lv_at hl 0 rfl) ?_
      refine g_get (v := .ref (ad 3 k0)) hx hb hts hown hK hP (hLx.h (f := 2) hk0) (gC2 _ _ _ _) gcl1 iX1_addTry_X1 0 (by decide) mX1_addTry_1 rfl rfl dX1_addTry_20 ?_
      refine lv_iload_n hx hb dX1_addTry_23 rfl (lv_at hl 1 rfl) ?_
      refine lv_dup2_11 hx hb dX1_addTry_24 rfl rfl ?_
      have hb6 := hw.1
      have hw := hw.2
      refine g_iald hx hb hK hP (hLx.h (f := 3) hk0) (gC3 _ _ _ _) hb6 dX1_addTry_25 ?_
      refine lv_iconst (v := (1 : Int32)) hx hb dX1_addTry_26 (by decide) ?_
      refine lv_iadd hx hb dX1_addTry_27 ?_
      have hb7 := hw.1
      have hw := hw.2
      refine g_iast hx hb hF hK hP hS (hLx.h (f := 3) hk0) (fun r => gC3 _ _ _ r) hb7 dX1_addTry_28 (fun M8 e9 H locs hP hS => ?_)
      have hw := hw M8 e9
      exact g_vret hx hb hr hlocks hw hP hS dX1_addTry_29
abbrev rmX1_addSlip : Room := { frames := 1, cells := 0, slots := 0, locals := 20 }
theorem eX1_addSlip : yX1_addSlip.cls = RX1 ∧ yX1_addSlip.cls ≠ "java/lang/invoke/MethodHandle" ∧ yX1_addSlip.cls ≠ "java/lang/invoke/VarHandle" ∧ (parseMethodDescriptor yX1_addSlip.desc).map (fun d => d.parameters.length) = some 1 := by decide +kernel
theorem mX1_addSlip_3 : Cond.initialized RX8 ∈ wsX1_addSlip := List.mem_of_getElem? (i := 3) rfl
theorem mX1_addSlip_2 : Cond.static yX8_isPart ∈ wsX1_addSlip := List.mem_of_getElem? (i := 2) rfl
theorem iX1_addSlip_X1 : ∀ w ∈ wsX10, w ∈ wsX1_addSlip := fun _ h => List.mem_cons_of_mem _ (List.mem_append_right _ (h))
theorem mX1_addSlip_1 : Cond.fieldLink RX1 15 "PracticeSheets$Practice" "slips" "[I" ∈ wsX1_addSlip := List.mem_of_getElem? (i := 1) rfl
set_option maxHeartbeats 4000000 in
set_option maxRecDepth 100000 in
theorem qX1_addSlip (l : Launch) (D : va_G) (E : Nat → ClassId) (ad : Nat → Nat → Nat) (L : List (Nat × Nat)) (A : Nat → Prop) (hF : gF E ad L A) (hLx : gLx L) (M0 : gW) (k0 : Nat) (a1 : Int32) (hk0 : k0 < gN 2) (K : gW → Prop) (hw : wX1_addSlip M0 k0 a1 K) : Met l yX1_addSlip wsX1_addSlip rmX1_addSlip (va_Pc [.ref (ad 2 k0), .int a1] (gPre D E ad L M0)) (gQv D E ad L A K) 0 0 A := by
  refine Met.ofW (cc := cX1_addSlip) (maxL := 2) (ret := none) (by decide) rfl ?_
  intro p e s m args below meth c s₁ B hml hv
  obtain ⟨rfl, hP, hK, hN⟩ := hv
  have hx := B.exec
  have hb := B.bytes
  have hr := B.returns
  have hts := atoms_spec (ws := wsX1_addSlip) B.pre
  have hown : s.vm.findClass RX1 = some m.cls := findClass_of_methodNamed B.named
  have hlocks := B.notSynchronized
  have S : CallFix p m c cX1_addSlip 2 s ([.ref (ad 2 k0), .int a1] : List Value).toArray wsX1_addSlip RX1 := ⟨hx, hb, hml, hown, hts⟩
  have hS : va_S A s.heap s.heap [] := va_S.rf
  have hl := lv_entry ([.ref (ad 2 k0), .int a1]) (n := 2) (Nat.le_of_ble_eq_true rfl)
  rw [lg_entry_eq]
  generalize (lg_sl ([.ref (ad 2 k0), .int a1]) ++ List.replicate (2 - (lg_sl ([.ref (ad 2 k0), .int a1])).length) Slot.unset).toArray = ls at hl ⊢
  have hl : lv_has ls 2 [(0, .ref (ad 2 k0)), (1, .int a1)] := hl
  refine lv_iload_n hx hb dX1_addSlip_0 rfl (lv_at hl 1 rfl) ?_
  refine g_SNi (As := [.int a1]) (rest := []) S hK hN hP hS (qX8_isPart l D E ad L A hF hLx M0 a1  _ hw) ⟨va_cnB 1 hts gX1_addSlip_X8_isPart_n18 rfl rfl rfl (hN.2 1 _ rfl) (hts _ mX1_addSlip_3) eX8_isPart.2 ⟨Nat.le_of_ble_eq_true rfl, Nat.le_of_ble_eq_true rfl⟩, hts _ mX1_addSlip_2, trivial⟩ rfl rfl hl.1 (Nat.le_of_ble_eq_true rfl) ⟨Nat.zero_le _, Nat.zero_le _⟩ dX1_addSlip_1 (fun r2 M1 H locs hw hP hS => ?_)
  refine lv_if_eq (tgt := 29) hx hb dX1_addSlip_4 (by decide) (fun c3 => ?_) (fun c3 => ?_)
  · have hw := hw.1 c3
    exact g_vret hx hb hr hlocks hw hP hS dX1_addSlip_29
  · have hw := hw.2 c3
    refine lv_aload_n hx hb dX1_addSlip_7 rfl (lv_at hl 0 rfl) ?_
    refine g_get (v := .ref (ad 4 k0)) hx hb hts hown hK hP (hLx.h (f := 2) hk0) (gC2 _ _ _ _) gcl1 iX1_addSlip_X1 1 (by decide) mX1_addSlip_1 rfl rfl dX1_addSlip_8 ?_
    refine lv_iload_n hx hb dX1_addSlip_11 rfl (lv_at hl 1 rfl) ?_
    have hb4 := hw.1
    have hw := hw.2
    refine g_iald hx hb hK hP (hLx.h (f := 4) hk0) (gC4 _ _ _ _) hb4 dX1_addSlip_12 ?_
    refine lv_sipush (v := (9999 : Int32)) hx hb dX1_addSlip_13 (by decide) ?_
    refine lv_icmp_ge (tgt := 29) hx hb dX1_addSlip_16 (by decide) (fun c5 => ?_) (fun c5 => ?_)
    · have hw := hw.1 c5
      exact g_vret hx hb hr hlocks hw hP hS dX1_addSlip_29
    · have hw := hw.2 c5
      refine lv_aload_n hx hb dX1_addSlip_19 rfl (lv_at hl 0 rfl) ?_
      refine g_get (v := .ref (ad 4 k0)) hx hb hts hown hK hP (hLx.h (f := 2) hk0) (gC2 _ _ _ _) gcl1 iX1_addSlip_X1 1 (by decide) mX1_addSlip_1 rfl rfl dX1_addSlip_20 ?_
      refine lv_iload_n hx hb dX1_addSlip_23 rfl (lv_at hl 1 rfl) ?_
      refine lv_dup2_11 hx hb dX1_addSlip_24 rfl rfl ?_
      have hb6 := hw.1
      have hw := hw.2
      refine g_iald hx hb hK hP (hLx.h (f := 4) hk0) (gC4 _ _ _ _) hb6 dX1_addSlip_25 ?_
      refine lv_iconst (v := (1 : Int32)) hx hb dX1_addSlip_26 (by decide) ?_
      refine lv_iadd hx hb dX1_addSlip_27 ?_
      have hb7 := hw.1
      have hw := hw.2
      refine g_iast hx hb hF hK hP hS (hLx.h (f := 4) hk0) (fun r => gC4 _ _ _ r) hb7 dX1_addSlip_28 (fun M8 e9 H locs hP hS => ?_)
      have hw := hw M8 e9
      exact g_vret hx hb hr hlocks hw hP hS dX1_addSlip_29
abbrev rmX8_joinPart : Room := { frames := 0, cells := 0, slots := 0, locals := 0 }
theorem eX8_joinPart : yX8_joinPart.cls = RX8 ∧ yX8_joinPart.cls ≠ "java/lang/invoke/MethodHandle" ∧ yX8_joinPart.cls ≠ "java/lang/invoke/VarHandle" ∧ (parseMethodDescriptor yX8_joinPart.desc).map (fun d => d.parameters.length) = some 2 := by decide +kernel
set_option maxHeartbeats 4000000 in
set_option maxRecDepth 100000 in
theorem qX8_joinPart (l : Launch) (D : va_G) (E : Nat → ClassId) (ad : Nat → Nat → Nat) (L : List (Nat × Nat)) (A : Nat → Prop) (hF : gF E ad L A) (hLx : gLx L) (M0 : gW) (a0 : Int32) (a1 : Int32)  (K : Int32 → gW → Prop) (hw : wX8_joinPart M0 a0 a1 K) : Met l yX8_joinPart wsX8_joinPart rmX8_joinPart (va_Pc [.int a0, .int a1] (gPre D E ad L M0)) (gQi D E ad L A K) 0 0 A := by
  refine Met.ofW (cc := cX8_joinPart) (maxL := 2) (ret := (some .int)) (by decide) rfl ?_
  intro p e s m args below meth c s₁ B hml hv
  obtain ⟨rfl, hP, hK, hN⟩ := hv
  have hx := B.exec
  have hb := B.bytes
  have hr := B.returns
  have hts := atoms_spec (ws := wsX8_joinPart) B.pre
  have hown : s.vm.findClass RX8 = some m.cls := findClass_of_methodNamed B.named
  have hlocks := B.notSynchronized
  have S : CallFix p m c cX8_joinPart 2 s ([.int a0, .int a1] : List Value).toArray wsX8_joinPart RX8 := ⟨hx, hb, hml, hown, hts⟩
  have hS : va_S A s.heap s.heap [] := va_S.rf
  have hl := lv_entry ([.int a0, .int a1]) (n := 2) (Nat.le_of_ble_eq_true rfl)
  rw [lg_entry_eq]
  generalize (lg_sl ([.int a0, .int a1]) ++ List.replicate (2 - (lg_sl ([.int a0, .int a1])).length) Slot.unset).toArray = ls at hl ⊢
  have hl : lv_has ls 2 [(0, .int a0), (1, .int a1)] := hl
  refine lv_bipush (v := (26 : Int32)) hx hb dX8_joinPart_0 (by decide) ?_
  refine lv_bipush (v := (26 : Int32)) hx hb dX8_joinPart_2 (by decide) ?_
  refine lv_iload_n hx hb dX8_joinPart_4 rfl (lv_at hl 0 rfl) ?_
  refine lv_imul hx hb dX8_joinPart_5 ?_
  refine lv_iadd hx hb dX8_joinPart_6 ?_
  refine lv_iload_n hx hb dX8_joinPart_7 rfl (lv_at hl 1 rfl) ?_
  refine lv_iadd hx hb dX8_joinPart_8 ?_
  exact g_iret hx hb hr hlocks hw hP hS dX8_joinPart_9
abbrev rmX1_addTriesOf : Room := { frames := 2, cells := 0, slots := 0, locals := 41 }
theorem eX1_addTriesOf : yX1_addTriesOf.cls = RX1 ∧ yX1_addTriesOf.cls ≠ "java/lang/invoke/MethodHandle" ∧ yX1_addTriesOf.cls ≠ "java/lang/invoke/VarHandle" ∧ (parseMethodDescriptor yX1_addTriesOf.desc).map (fun d => d.parameters.length) = some 1 := by decide +kernel
theorem iX1_addTriesOf_X6 : ∀ w ∈ wsX60, w ∈ wsX1_addTriesOf := fun _ h => List.mem_cons_of_mem _ (List.mem_append_left _ (List.mem_append_right _ (h)))
theorem mX1_addTriesOf_8 : Cond.initialized RX8 ∈ wsX1_addTriesOf := List.mem_of_getElem? (i := 8) rfl
theorem mX1_addTriesOf_10 : Cond.static yX8_joinPart ∈ wsX1_addTriesOf := List.mem_of_getElem? (i := 10) rfl
set_option maxHeartbeats 4000000 in
set_option maxRecDepth 100000 in
theorem qX1_addTriesOf (l : Launch) (D : va_G) (E : Nat → ClassId) (ad : Nat → Nat → Nat) (L : List (Nat × Nat)) (A : Nat → Prop) (hF : gF E ad L A) (hLx : gLx L) (M0 : gW) (k0 : Nat) (k1 : Nat) (hk0 : k0 < gN 2) (hk1 : k1 < gN 7) (K : gW → Prop) (hw : wX1_addTriesOf M0 k0 k1 K) : Met l yX1_addTriesOf wsX1_addTriesOf rmX1_addTriesOf (va_Pc [.ref (ad 2 k0), .ref (ad 7 k1)] (gPre D E ad L M0)) (gQv D E ad L A K) 0 0 A := by
  refine Met.ofW (cc := cX1_addTriesOf) (maxL := 3) (ret := none) (by decide) rfl ?_
  intro p e s m args below meth c s₁ B hml hv
  obtain ⟨rfl, hP, hK, hN⟩ := hv
  have hx := B.exec
  have hb := B.bytes
  have hr := B.returns
  have hts := atoms_spec (ws := wsX1_addTriesOf) B.pre
  have hown : s.vm.findClass RX1 = some m.cls := findClass_of_methodNamed B.named
  have hlocks := B.notSynchronized
  have S : CallFix p m c cX1_addTriesOf 3 s ([.ref (ad 2 k0), .ref (ad 7 k1)] : List Value).toArray wsX1_addTriesOf RX1 := ⟨hx, hb, hml, hown, hts⟩
  have hS : va_S A s.heap s.heap [] := va_S.rf
  have hl := lv_entry ([.ref (ad 2 k0), .ref (ad 7 k1)]) (n := 3) (Nat.le_of_ble_eq_true rfl)
  rw [lg_entry_eq]
  generalize (lg_sl ([.ref (ad 2 k0), .ref (ad 7 k1)]) ++ List.replicate (3 - (lg_sl ([.ref (ad 2 k0), .ref (ad 7 k1)])).length) Slot.unset).toArray = ls at hl ⊢
  have hl : lv_has ls 3 [(0, .ref (ad 2 k0)), (1, .ref (ad 7 k1))] := hl
  refine lv_iconst (v := (0 : Int32)) hx hb dX1_addTriesOf_0 (by decide) ?_
  refine lv_istore_n (lv' := [(2, .int (0 : Int32)), (0, .ref (ad 2 k0)), (1, .ref (ad 7 k1))]) hx hb dX1_addTriesOf_1 rfl hl (by decide) rfl (fun ls hl => ?_)
  obtain ⟨n15, hw⟩ := hw
  have hxX1_addTriesOf_L2_0 : ∀ (M13 : gW) (x2_14 : Int32) (H : Heap) (locs : List Loc) (ls : Array Slot), (K M13) → va_P D vwCl (gL E ad L M13) H → va_S A s.heap H locs → lv_has ls 3 [(0, .ref (ad 2 k0)), (1, .ref (ad 7 k1)), (2, .int x2_14)] → W p l e (headSpec wsX1_addTriesOf rmX1_addTriesOf).room s m (([.ref (ad 2 k0), .ref (ad 7 k1)] : List Value).toArray) below meth c H locs 0 0 (MQ below (gQv D E ad L A K) ([.ref (ad 2 k0), .ref (ad 7 k1)] : List Value).toArray s 0 0 A) (F0 m 51 ls []) := by
    intro M13 x2_14 H locs ls hw hP hS hl
    exact g_vret hx hb hr hlocks hw hP hS dX1_addTriesOf_51
  have hlX1_addTriesOf_L2 : ∀ (n1 : Nat) (M2 : gW) (x2_3 : Int32) (H : Heap) (locs : List Loc) (ls : Array Slot), wX1_addTriesOf_L2 k0 k1 (fun M13 x2_14 => (K M13)) n1 M2 x2_3 → va_P D vwCl (gL E ad L M2) H → va_S A s.heap H locs → lv_has ls 3 [(0, .ref (ad 2 k0)), (1, .ref (ad 7 k1)), (2, .int x2_3)] → W p l e (headSpec wsX1_addTriesOf rmX1_addTriesOf).room s m (([.ref (ad 2 k0), .ref (ad 7 k1)] : List Value).toArray) below meth c H locs 0 0 (MQ below (gQv D E ad L A K) ([.ref (ad 2 k0), .ref (ad 7 k1)] : List Value).toArray s 0 0 A) (F0 m 2 ls []) := by
    intro n1
    induction n1 with
    | zero => intro M2 x2_3 H locs ls hw; exact False.elim hw
    | succ n1 ihn1 =>
      intro M2 x2_3 H locs ls hw hP hS hl
      refine lv_iload_n hx hb dX1_addTriesOf_2 rfl (lv_at hl 2 rfl) ?_
      refine lv_aload_n hx hb dX1_addTriesOf_3 rfl (lv_at hl 1 rfl) ?_
      refine g_getN (v := .int (M2 7 k1 2)) hx hb hts hown hK hN hP (hLx.h (f := 7) hk1) (gC7 _ _ _ _) gcl6 iX1_addTriesOf_X6 2 (by decide) 5 rfl rfl rfl dX1_addTriesOf_4 ?_
      refine lv_icmp_ge (tgt := 51) hx hb dX1_addTriesOf_7 (by decide) (fun c4 => ?_) (fun c4 => ?_)
      · have hw := hw.1 c4
        exact hxX1_addTriesOf_L2_0 _ _ _ _ _ hw hP hS (lv_sub hl [0, 1, 2] rfl)
      · have hw := hw.2 c4
        refine lv_aload_n hx hb dX1_addTriesOf_10 rfl (lv_at hl 0 rfl) ?_
        refine lv_aload_n hx hb dX1_addTriesOf_11 rfl (lv_at hl 1 rfl) ?_
        refine g_getN (v := .ref (ad 8 k1)) hx hb hts hown hK hN hP (hLx.h (f := 7) hk1) (gC7 _ _ _ _) gcl6 iX1_addTriesOf_X6 0 (by decide) 0 rfl rfl rfl dX1_addTriesOf_12 ?_
        refine lv_iload_n hx hb dX1_addTriesOf_15 rfl (lv_at hl 2 rfl) ?_
        have hb5 := hw.1
        have hw := hw.2
        refine g_iald hx hb hK hP (hLx.h (f := 8) hk1) (gC8 _ _ _ _) hb5 dX1_addTriesOf_16 ?_
        refine g_Vv (As := [.int (M2 8 k1 x2_3.toNatClampNeg)]) (rest := []) S hK hN hP hS (qX1_addTry l D E ad L A hF hLx M2 k0 (M2 8 k1 x2_3.toNatClampNeg) hk0 _ hw) (cwV 1 hts gX1_addTriesOf_X1_addTry rfl rfl rfl eX1_addTry ⟨Nat.le_of_ble_eq_true rfl, Nat.le_of_ble_eq_true rfl⟩) (hLx.h (f := 2) hk0) (gC2 _ _ _ _) gcl1 rfl rfl rfl hl.1 (Nat.le_of_ble_eq_true rfl) ⟨Nat.zero_le _, Nat.zero_le _⟩ dX1_addTriesOf_17 (fun M6 H locs hw hP hS => ?_)
        refine lv_iload_n hx hb dX1_addTriesOf_20 rfl (lv_at hl 2 rfl) ?_
        refine lv_if_le (tgt := 45) hx hb dX1_addTriesOf_21 (by decide) (fun c7 => ?_) (fun c7 => ?_)
        · have hw := hw.1 c7
          refine lv_iinc (v := (x2_3 + (1 : Int32))) (lv' := [(2, .int (x2_3 + (1 : Int32))), (0, .ref (ad 2 k0)), (1, .ref (ad 7 k1))]) hx hb dX1_addTriesOf_45 hl (k := 2) rfl rfl (by decide) rfl (fun ls hl => ?_)
          refine lv_goto (tgt := 2) hx hb dX1_addTriesOf_48 (by decide) ?_
          exact ihn1 _ _ _ _ _ hw hP hS (lv_sub hl [1, 2, 0] rfl)
        · have hw := hw.2 c7
          refine lv_aload_n hx hb dX1_addTriesOf_24 rfl (lv_at hl 0 rfl) ?_
          refine lv_aload_n hx hb dX1_addTriesOf_25 rfl (lv_at hl 1 rfl) ?_
          refine g_getN (v := .ref (ad 8 k1)) hx hb hts hown hK hN hP (hLx.h (f := 7) hk1) (gC7 _ _ _ _) gcl6 iX1_addTriesOf_X6 0 (by decide) 0 rfl rfl rfl dX1_addTriesOf_26 ?_
          refine lv_iload_n hx hb dX1_addTriesOf_29 rfl (lv_at hl 2 rfl) ?_
          refine lv_iconst (v := (1 : Int32)) hx hb dX1_addTriesOf_30 (by decide) ?_
          refine lv_isub hx hb dX1_addTriesOf_31 ?_
          have hb8 := hw.1
          have hw := hw.2
          refine g_iald hx hb hK hP (hLx.h (f := 8) hk1) (gC8 _ _ _ _) hb8 dX1_addTriesOf_32 ?_
          refine lv_aload_n hx hb dX1_addTriesOf_33 rfl (lv_at hl 1 rfl) ?_
          refine g_getN (v := .ref (ad 8 k1)) hx hb hts hown hK hN hP (hLx.h (f := 7) hk1) (gC7 _ _ _ _) gcl6 iX1_addTriesOf_X6 0 (by decide) 0 rfl rfl rfl dX1_addTriesOf_34 ?_
          refine lv_iload_n hx hb dX1_addTriesOf_37 rfl (lv_at hl 2 rfl) ?_
          have hb9 := hw.1
          have hw := hw.2
          refine g_iald hx hb hK hP (hLx.h (f := 8) hk1) (gC8 _ _ _ _) hb9 dX1_addTriesOf_38 ?_
          refine g_SNi (As := [.int (M6 8 k1 (x2_3 - (1 : Int32)).toNatClampNeg), .int (M6 8 k1 x2_3.toNatClampNeg)]) (rest := [.ref (ad 2 k0)]) S hK hN hP hS (qX8_joinPart l D E ad L A hF hLx M6 (M6 8 k1 (x2_3 - (1 : Int32)).toNatClampNeg) (M6 8 k1 x2_3.toNatClampNeg)  _ hw) ⟨va_cnB 2 hts gX1_addTriesOf_X8_joinPart_n48 rfl rfl rfl (hN.2 6 _ rfl) (hts _ mX1_addTriesOf_8) eX8_joinPart.2 ⟨Nat.le_of_ble_eq_true rfl, Nat.le_of_ble_eq_true rfl⟩, hts _ mX1_addTriesOf_10, trivial⟩ rfl rfl hl.1 (Nat.le_of_ble_eq_true rfl) ⟨Nat.zero_le _, Nat.zero_le _⟩ dX1_addTriesOf_39 (fun r11 M10 H locs hw hP hS => ?_)
          refine g_Vv (As := [.int r11]) (rest := []) S hK hN hP hS (qX1_addTry l D E ad L A hF hLx M10 k0 r11 hk0 _ hw) (cwV 1 hts gX1_addTriesOf_X1_addTry rfl rfl rfl eX1_addTry ⟨Nat.le_of_ble_eq_true rfl, Nat.le_of_ble_eq_true rfl⟩) (hLx.h (f := 2) hk0) (gC2 _ _ _ _) gcl1 rfl rfl rfl hl.1 (Nat.le_of_ble_eq_true rfl) ⟨Nat.zero_le _, Nat.zero_le _⟩ dX1_addTriesOf_42 (fun M12 H locs hw hP hS => ?_)
          refine lv_iinc (v := (x2_3 + (1 : Int32))) (lv' := [(2, .int (x2_3 + (1 : Int32))), (0, .ref (ad 2 k0)), (1, .ref (ad 7 k1))]) hx hb dX1_addTriesOf_45 hl (k := 2) rfl rfl (by decide) rfl (fun ls hl => ?_)
          refine lv_goto (tgt := 2) hx hb dX1_addTriesOf_48 (by decide) ?_
          exact ihn1 _ _ _ _ _ hw hP hS (lv_sub hl [1, 2, 0] rfl)
  exact hlX1_addTriesOf_L2 n15 _ _ _ _ _ hw hP hS (lv_sub hl [1, 2, 0] rfl)
abbrev rmX1_fade : Room := { frames := 0, cells := 0, slots := 0, locals := 0 }
theorem eX1_fade : yX1_fade.cls = RX1 ∧ yX1_fade.cls ≠ "java/lang/invoke/MethodHandle" ∧ yX1_fade.cls ≠ "java/lang/invoke/VarHandle" ∧ (parseMethodDescriptor yX1_fade.desc).map (fun d => d.parameters.length) = some 1 := by decide +kernel
theorem iX1_fade_X1 : ∀ w ∈ wsX10, w ∈ wsX1_fade := fun _ h => List.mem_cons_of_mem _ (List.mem_append_right _ (h))
theorem mX1_fade_1 : Cond.fieldLink RX1 9 "PracticeSheets$Practice" "tries" "[I" ∈ wsX1_fade := List.mem_of_getElem? (i := 1) rfl
theorem mX1_fade_2 : Cond.fieldLink RX1 15 "PracticeSheets$Practice" "slips" "[I" ∈ wsX1_fade := List.mem_of_getElem? (i := 2) rfl
set_option maxHeartbeats 4000000 in
set_option maxRecDepth 100000 in
theorem qX1_fade (l : Launch) (D : va_G) (E : Nat → ClassId) (ad : Nat → Nat → Nat) (L : List (Nat × Nat)) (A : Nat → Prop) (hF : gF E ad L A) (hLx : gLx L) (M0 : gW) (k0 : Nat) (a1 : Int32) (hk0 : k0 < gN 2) (K : Int32 → gW → Prop) (hw : wX1_fade M0 k0 a1 K) : Met l yX1_fade wsX1_fade rmX1_fade (va_Pc [.ref (ad 2 k0), .int a1] (gPre D E ad L M0)) (gQi D E ad L A K) 0 0 A := by
  refine Met.ofW (cc := cX1_fade) (maxL := 5) (ret := (some .int)) (by decide) rfl ?_
  intro p e s m args below meth c s₁ B hml hv
  obtain ⟨rfl, hP, hK, hN⟩ := hv
  have hx := B.exec
  have hb := B.bytes
  have hr := B.returns
  have hts := atoms_spec (ws := wsX1_fade) B.pre
  have hown : s.vm.findClass RX1 = some m.cls := findClass_of_methodNamed B.named
  have hlocks := B.notSynchronized
  have S : CallFix p m c cX1_fade 5 s ([.ref (ad 2 k0), .int a1] : List Value).toArray wsX1_fade RX1 := ⟨hx, hb, hml, hown, hts⟩
  have hS : va_S A s.heap s.heap [] := va_S.rf
  have hl := lv_entry ([.ref (ad 2 k0), .int a1]) (n := 5) (Nat.le_of_ble_eq_true rfl)
  rw [lg_entry_eq]
  generalize (lg_sl ([.ref (ad 2 k0), .int a1]) ++ List.replicate (5 - (lg_sl ([.ref (ad 2 k0), .int a1])).length) Slot.unset).toArray = ls at hl ⊢
  have hl : lv_has ls 5 [(0, .ref (ad 2 k0)), (1, .int a1)] := hl
  refine lv_iconst (v := (0 : Int32)) hx hb dX1_fade_0 (by decide) ?_
  refine lv_istore_n (lv' := [(2, .int (0 : Int32)), (0, .ref (ad 2 k0)), (1, .int a1)]) hx hb dX1_fade_1 rfl hl (by decide) rfl (fun ls hl => ?_)
  refine lv_iconst (v := (0 : Int32)) hx hb dX1_fade_2 (by decide) ?_
  refine lv_istore_n (lv' := [(3, .int (0 : Int32)), (2, .int (0 : Int32)), (0, .ref (ad 2 k0)), (1, .int a1)]) hx hb dX1_fade_3 rfl hl (by decide) rfl (fun ls hl => ?_)
  obtain ⟨n29, hw⟩ := hw
  have hxX1_fade_L4_0 : ∀ (M26 : gW) (x2_27 : Int32) (x3_28 : Int32) (H : Heap) (locs : List Loc) (ls : Array Slot), (K x2_27 M26) → va_P D vwCl (gL E ad L M26) H → va_S A s.heap H locs → lv_has ls 5 [(0, .ref (ad 2 k0)), (1, .int a1), (2, .int x2_27), (3, .int x3_28)] → W p l e (headSpec wsX1_fade rmX1_fade).room s m (([.ref (ad 2 k0), .int a1] : List Value).toArray) below meth c H locs 0 0 (MQ below (gQi D E ad L A K) ([.ref (ad 2 k0), .int a1] : List Value).toArray s 0 0 A) (F0 m 70 ls []) := by
    intro M26 x2_27 x3_28 H locs ls hw hP hS hl
    refine lv_iload_n hx hb dX1_fade_70 rfl (lv_at hl 2 rfl) ?_
    exact g_iret hx hb hr hlocks hw hP hS dX1_fade_71
  have hlX1_fade_L4 : ∀ (n1 : Nat) (M2 : gW) (x2_3 : Int32) (x3_4 : Int32) (H : Heap) (locs : List Loc) (ls : Array Slot), wX1_fade_L4 k0 a1 (fun M26 x2_27 x3_28 => (K x2_27 M26)) n1 M2 x2_3 x3_4 → va_P D vwCl (gL E ad L M2) H → va_S A s.heap H locs → lv_has ls 5 [(0, .ref (ad 2 k0)), (1, .int a1), (2, .int x2_3), (3, .int x3_4)] → W p l e (headSpec wsX1_fade rmX1_fade).room s m (([.ref (ad 2 k0), .int a1] : List Value).toArray) below meth c H locs 0 0 (MQ below (gQi D E ad L A K) ([.ref (ad 2 k0), .int a1] : List Value).toArray s 0 0 A) (F0 m 4 ls []) := by
    intro n1
    induction n1 with
    | zero => intro M2 x2_3 x3_4 H locs ls hw; exact False.elim hw
    | succ n1 ihn1 =>
      intro M2 x2_3 x3_4 H locs ls hw hP hS hl
      refine lv_iload_n hx hb dX1_fade_4 rfl (lv_at hl 3 rfl) ?_
      refine lv_sipush (v := (702 : Int32)) hx hb dX1_fade_5 (by decide) ?_
      refine lv_icmp_ge (tgt := 70) hx hb dX1_fade_8 (by decide) (fun c5 => ?_) (fun c5 => ?_)
      · have hw := hw.1 c5
        exact hxX1_fade_L4_0 _ _ _ _ _ _ hw hP hS (lv_sub hl [0, 1, 2, 3] rfl)
      · have hw := hw.2 c5
        refine lv_aload_n hx hb dX1_fade_11 rfl (lv_at hl 0 rfl) ?_
        refine g_get (v := .ref (ad 3 k0)) hx hb hts hown hK hP (hLx.h (f := 2) hk0) (gC2 _ _ _ _) gcl1 iX1_fade_X1 0 (by decide) mX1_fade_1 rfl rfl dX1_fade_12 ?_
        refine lv_iload_n hx hb dX1_fade_15 rfl (lv_at hl 3 rfl) ?_
        have hb6 := hw.1
        have hw := hw.2
        refine g_iald hx hb hK hP (hLx.h (f := 3) hk0) (gC3 _ _ _ _) hb6 dX1_fade_16 ?_
        refine lv_if_le (tgt := 24) hx hb dX1_fade_17 (by decide) (fun c7 => ?_) (fun c7 => ?_)
        · have hw := hw.1 c7
          refine lv_iconst (v := (0 : Int32)) hx hb dX1_fade_24 (by decide) ?_
          refine lv_istore (lv' := [(4, .int (0 : Int32)), (0, .ref (ad 2 k0)), (1, .int a1), (2, .int x2_3), (3, .int x3_4)]) hx hb dX1_fade_25 hl (by decide) rfl (fun ls hl => ?_)
          refine lv_aload_n hx hb dX1_fade_27 rfl (lv_at hl 1 rfl) ?_
          refine g_get (v := .ref (ad 3 k0)) hx hb hts hown hK hP (hLx.h (f := 2) hk0) (gC2 _ _ _ _) gcl1 iX1_fade_X1 0 (by decide) mX1_fade_1 rfl rfl dX1_fade_28 ?_
          refine lv_iload_n hx hb dX1_fade_31 rfl (lv_at hl 4 rfl) ?_
          refine lv_dup2_11 hx hb dX1_fade_32 rfl rfl ?_
          have hb8 := hw.1
          have hw := hw.2
          refine g_iald hx hb hK hP (hLx.h (f := 3) hk0) (gC3 _ _ _ _) hb8 dX1_fade_33 ?_
          refine lv_iload_n hx hb dX1_fade_34 rfl (lv_at hl 2 rfl) ?_
          refine lv_ishr hx hb dX1_fade_35 ?_
          have hb9 := hw.1
          have hw := hw.2
          refine g_iast hx hb hF hK hP hS (hLx.h (f := 3) hk0) (fun r => gC3 _ _ _ r) hb9 dX1_fade_36 (fun M10 e11 H locs hP hS => ?_)
          have hw := hw M10 e11
          refine lv_aload_n hx hb dX1_fade_37 rfl (lv_at hl 1 rfl) ?_
          refine g_get (v := .ref (ad 4 k0)) hx hb hts hown hK hP (hLx.h (f := 2) hk0) (gC2 _ _ _ _) gcl1 iX1_fade_X1 1 (by decide) mX1_fade_2 rfl rfl dX1_fade_38 ?_
          refine lv_iload_n hx hb dX1_fade_41 rfl (lv_at hl 4 rfl) ?_
          refine lv_dup2_11 hx hb dX1_fade_42 rfl rfl ?_
          have hb12 := hw.1
          have hw := hw.2
          refine g_iald hx hb hK hP (hLx.h (f := 4) hk0) (gC4 _ _ _ _) hb12 dX1_fade_43 ?_
          refine lv_iload_n hx hb dX1_fade_44 rfl (lv_at hl 2 rfl) ?_
          refine lv_ishr hx hb dX1_fade_45 ?_
          have hb13 := hw.1
          have hw := hw.2
          refine g_iast hx hb hF hK hP hS (hLx.h (f := 4) hk0) (fun r => gC4 _ _ _ r) hb13 dX1_fade_46 (fun M14 e15 H locs hP hS => ?_)
          have hw := hw M14 e15
          refine lv_iload hx hb dX1_fade_47 (lv_at hl 0 rfl) ?_
          refine lv_if_eq (tgt := 64) hx hb dX1_fade_49 (by decide) (fun _ => ?_) (fun c => absurd (by decide) c)
          refine lv_iinc (v := (x3_4 + (1 : Int32))) (lv' := [(3, .int (x3_4 + (1 : Int32))), (4, .int (0 : Int32)), (0, .ref (ad 2 k0)), (1, .int a1), (2, .int x2_3)]) hx hb dX1_fade_64 hl (k := 4) rfl rfl (by decide) rfl (fun ls hl => ?_)
          refine lv_goto (tgt := 4) hx hb dX1_fade_67 (by decide) ?_
          exact ihn1 _ _ _ _ _ _ hw hP hS (lv_sub hl [2, 3, 4, 0] rfl)
        · have hw := hw.2 c7
          refine lv_iconst (v := (1 : Int32)) hx hb dX1_fade_20 (by decide) ?_
          refine lv_goto (tgt := 25) hx hb dX1_fade_21 (by decide) ?_
          refine lv_istore (lv' := [(4, .int (1 : Int32)), (0, .ref (ad 2 k0)), (1, .int a1), (2, .int x2_3), (3, .int x3_4)]) hx hb dX1_fade_25 hl (by decide) rfl (fun ls hl => ?_)
          refine lv_aload_n hx hb dX1_fade_27 rfl (lv_at hl 1 rfl) ?_
          refine g_get (v := .ref (ad 3 k0)) hx hb hts hown hK hP (hLx.h (f := 2) hk0) (gC2 _ _ _ _) gcl1 iX1_fade_X1 0 (by decide) mX1_fade_1 rfl rfl dX1_fade_28 ?_
          refine lv_iload_n hx hb dX1_fade_31 rfl (lv_at hl 4 rfl) ?_
          refine lv_dup2_11 hx hb dX1_fade_32 rfl rfl ?_
          have hb16 := hw.1
          have hw := hw.2
          refine g_iald hx hb hK hP (hLx.h (f := 3) hk0) (gC3 _ _ _ _) hb16 dX1_fade_33 ?_
          refine lv_iload_n hx hb dX1_fade_34 rfl (lv_at hl 2 rfl) ?_
          refine lv_ishr hx hb dX1_fade_35 ?_
          have hb17 := hw.1
          have hw := hw.2
          refine g_iast hx hb hF hK hP hS (hLx.h (f := 3) hk0) (fun r => gC3 _ _ _ r) hb17 dX1_fade_36 (fun M18 e19 H locs hP hS => ?_)
          have hw := hw M18 e19
          refine lv_aload_n hx hb dX1_fade_37 rfl (lv_at hl 1 rfl) ?_
          refine g_get (v := .ref (ad 4 k0)) hx hb hts hown hK hP (hLx.h (f := 2) hk0) (gC2 _ _ _ _) gcl1 iX1_fade_X1 1 (by decide) mX1_fade_2 rfl rfl dX1_fade_38 ?_
          refine lv_iload_n hx hb dX1_fade_41 rfl (lv_at hl 4 rfl) ?_
          refine lv_dup2_11 hx hb dX1_fade_42 rfl rfl ?_
          have hb20 := hw.1
          have hw := hw.2
          refine g_iald hx hb hK hP (hLx.h (f := 4) hk0) (gC4 _ _ _ _) hb20 dX1_fade_43 ?_
          refine lv_iload_n hx hb dX1_fade_44 rfl (lv_at hl 2 rfl) ?_
          refine lv_ishr hx hb dX1_fade_45 ?_
          have hb21 := hw.1
          have hw := hw.2
          refine g_iast hx hb hF hK hP hS (hLx.h (f := 4) hk0) (fun r => gC4 _ _ _ r) hb21 dX1_fade_46 (fun M22 e23 H locs hP hS => ?_)
          have hw := hw M22 e23
          refine lv_iload hx hb dX1_fade_47 (lv_at hl 0 rfl) ?_
          refine lv_if_eq (tgt := 64) hx hb dX1_fade_49 (by decide) (fun c => absurd c (by decide)) (fun _ => ?_)
          refine lv_aload_n hx hb dX1_fade_52 rfl (lv_at hl 1 rfl) ?_
          refine g_get (v := .ref (ad 3 k0)) hx hb hts hown hK hP (hLx.h (f := 2) hk0) (gC2 _ _ _ _) gcl1 iX1_fade_X1 0 (by decide) mX1_fade_1 rfl rfl dX1_fade_53 ?_
          refine lv_iload_n hx hb dX1_fade_56 rfl (lv_at hl 4 rfl) ?_
          have hb24 := hw.1
          have hw := hw.2
          refine g_iald hx hb hK hP (hLx.h (f := 3) hk0) (gC3 _ _ _ _) hb24 dX1_fade_57 ?_
          refine lv_if_ne (tgt := 64) hx hb dX1_fade_58 (by decide) (fun c25 => ?_) (fun c25 => ?_)
          · have hw := hw.2 c25
            refine lv_iinc (v := (x3_4 + (1 : Int32))) (lv' := [(3, .int (x3_4 + (1 : Int32))), (4, .int (1 : Int32)), (0, .ref (ad 2 k0)), (1, .int a1), (2, .int x2_3)]) hx hb dX1_fade_64 hl (k := 4) rfl rfl (by decide) rfl (fun ls hl => ?_)
            refine lv_goto (tgt := 4) hx hb dX1_fade_67 (by decide) ?_
            exact ihn1 _ _ _ _ _ _ hw hP hS (lv_sub hl [2, 3, 4, 0] rfl)
          · have hw := hw.1 c25
            refine lv_iinc (v := (x2_3 + (1 : Int32))) (lv' := [(2, .int (x2_3 + (1 : Int32))), (4, .int (1 : Int32)), (0, .ref (ad 2 k0)), (1, .int a1), (3, .int x3_4)]) hx hb dX1_fade_61 hl (k := 3) rfl rfl (by decide) rfl (fun ls hl => ?_)
            refine lv_iinc (v := (x3_4 + (1 : Int32))) (lv' := [(3, .int (x3_4 + (1 : Int32))), (2, .int (x2_3 + (1 : Int32))), (4, .int (1 : Int32)), (0, .ref (ad 2 k0)), (1, .int a1)]) hx hb dX1_fade_64 hl (k := 4) rfl rfl (by decide) rfl (fun ls hl => ?_)
            refine lv_goto (tgt := 4) hx hb dX1_fade_67 (by decide) ?_
            exact ihn1 _ _ _ _ _ _ hw hP hS (lv_sub hl [3, 4, 1, 0] rfl)
  exact hlX1_fade_L4 n29 _ _ _ _ _ _ hw hP hS (lv_sub hl [2, 3, 1, 0] rfl)
abbrev rmX1_needOfAll : Room := { frames := 3, cells := 0, slots := 0, locals := 62 }
theorem eX1_needOfAll : yX1_needOfAll.cls = RX1 ∧ yX1_needOfAll.cls ≠ "java/lang/invoke/MethodHandle" ∧ yX1_needOfAll.cls ≠ "java/lang/invoke/VarHandle" ∧ (parseMethodDescriptor yX1_needOfAll.desc).map (fun d => d.parameters.length) = some 1 := by decide +kernel
theorem iX1_needOfAll_X6 : ∀ w ∈ wsX60, w ∈ wsX1_needOfAll := fun _ h => List.mem_cons_of_mem _ (List.mem_append_left _ (List.mem_append_right _ (h)))
set_option maxHeartbeats 4000000 in
set_option maxRecDepth 100000 in
theorem qX1_needOfAll (l : Launch) (D : va_G) (E : Nat → ClassId) (ad : Nat → Nat → Nat) (L : List (Nat × Nat)) (A : Nat → Prop) (hF : gF E ad L A) (hLx : gLx L) (M0 : gW) (k0 : Nat) (k1 : Nat) (hk0 : k0 < gN 2) (hk1 : k1 < gN 7) (K : Int32 → gW → Prop) (hw : wX1_needOfAll M0 k0 k1 K) : Met l yX1_needOfAll wsX1_needOfAll rmX1_needOfAll (va_Pc [.ref (ad 2 k0), .ref (ad 7 k1)] (gPre D E ad L M0)) (gQi D E ad L A K) 0 0 A := by
  refine Met.ofW (cc := cX1_needOfAll) (maxL := 4) (ret := (some .int)) (by decide) rfl ?_
  intro p e s m args below meth c s₁ B hml hv
  obtain ⟨rfl, hP, hK, hN⟩ := hv
  have hx := B.exec
  have hb := B.bytes
  have hr := B.returns
  have hts := atoms_spec (ws := wsX1_needOfAll) B.pre
  have hown : s.vm.findClass RX1 = some m.cls := findClass_of_methodNamed B.named
  have hlocks := B.notSynchronized
  have S : CallFix p m c cX1_needOfAll 4 s ([.ref (ad 2 k0), .ref (ad 7 k1)] : List Value).toArray wsX1_needOfAll RX1 := ⟨hx, hb, hml, hown, hts⟩
  have hS : va_S A s.heap s.heap [] := va_S.rf
  have hl := lv_entry ([.ref (ad 2 k0), .ref (ad 7 k1)]) (n := 4) (Nat.le_of_ble_eq_true rfl)
  rw [lg_entry_eq]
  generalize (lg_sl ([.ref (ad 2 k0), .ref (ad 7 k1)]) ++ List.replicate (4 - (lg_sl ([.ref (ad 2 k0), .ref (ad 7 k1)])).length) Slot.unset).toArray = ls at hl ⊢
  have hl : lv_has ls 4 [(0, .ref (ad 2 k0)), (1, .ref (ad 7 k1))] := hl
  refine lv_iconst (v := (0 : Int32)) hx hb dX1_needOfAll_0 (by decide) ?_
  refine lv_istore_n (lv' := [(2, .int (0 : Int32)), (0, .ref (ad 2 k0)), (1, .ref (ad 7 k1))]) hx hb dX1_needOfAll_1 rfl hl (by decide) rfl (fun ls hl => ?_)
  refine lv_iconst (v := (0 : Int32)) hx hb dX1_needOfAll_2 (by decide) ?_
  refine lv_istore_n (lv' := [(3, .int (0 : Int32)), (2, .int (0 : Int32)), (0, .ref (ad 2 k0)), (1, .ref (ad 7 k1))]) hx hb dX1_needOfAll_3 rfl hl (by decide) rfl (fun ls hl => ?_)
  obtain ⟨n12, hw⟩ := hw
  have hxX1_needOfAll_L4_0 : ∀ (M9 : gW) (x2_10 : Int32) (x3_11 : Int32) (H : Heap) (locs : List Loc) (ls : Array Slot), (K x2_10 M9) → va_P D vwCl (gL E ad L M9) H → va_S A s.heap H locs → lv_has ls 4 [(0, .ref (ad 2 k0)), (1, .ref (ad 7 k1)), (2, .int x2_10), (3, .int x3_11)] → W p l e (headSpec wsX1_needOfAll rmX1_needOfAll).room s m (([.ref (ad 2 k0), .ref (ad 7 k1)] : List Value).toArray) below meth c H locs 0 0 (MQ below (gQi D E ad L A K) ([.ref (ad 2 k0), .ref (ad 7 k1)] : List Value).toArray s 0 0 A) (F0 m 31 ls []) := by
    intro M9 x2_10 x3_11 H locs ls hw hP hS hl
    refine lv_iload_n hx hb dX1_needOfAll_31 rfl (lv_at hl 2 rfl) ?_
    exact g_iret hx hb hr hlocks hw hP hS dX1_needOfAll_32
  have hlX1_needOfAll_L4 : ∀ (n1 : Nat) (M2 : gW) (x2_3 : Int32) (x3_4 : Int32) (H : Heap) (locs : List Loc) (ls : Array Slot), wX1_needOfAll_L4 k0 k1 (fun M9 x2_10 x3_11 => (K x2_10 M9)) n1 M2 x2_3 x3_4 → va_P D vwCl (gL E ad L M2) H → va_S A s.heap H locs → lv_has ls 4 [(0, .ref (ad 2 k0)), (1, .ref (ad 7 k1)), (2, .int x2_3), (3, .int x3_4)] → W p l e (headSpec wsX1_needOfAll rmX1_needOfAll).room s m (([.ref (ad 2 k0), .ref (ad 7 k1)] : List Value).toArray) below meth c H locs 0 0 (MQ below (gQi D E ad L A K) ([.ref (ad 2 k0), .ref (ad 7 k1)] : List Value).toArray s 0 0 A) (F0 m 4 ls []) := by
    intro n1
    induction n1 with
    | zero => intro M2 x2_3 x3_4 H locs ls hw; exact False.elim hw
    | succ n1 ihn1 =>
      intro M2 x2_3 x3_4 H locs ls hw hP hS hl
      refine lv_iload_n hx hb dX1_needOfAll_4 rfl (lv_at hl 3 rfl) ?_
      refine lv_aload_n hx hb dX1_needOfAll_5 rfl (lv_at hl 1 rfl) ?_
      refine g_getN (v := .int (M2 7 k1 3)) hx hb hts hown hK hN hP (hLx.h (f := 7) hk1) (gC7 _ _ _ _) gcl6 iX1_needOfAll_X6 3 (by decide) 8 rfl rfl rfl dX1_needOfAll_6 ?_
      refine lv_icmp_ge (tgt := 31) hx hb dX1_needOfAll_9 (by decide) (fun c5 => ?_) (fun c5 => ?_)
      · have hw := hw.1 c5
        exact hxX1_needOfAll_L4_0 _ _ _ _ _ _ hw hP hS (lv_sub hl [0, 1, 2, 3] rfl)
      · have hw := hw.2 c5
        refine lv_iload_n hx hb dX1_needOfAll_12 rfl (lv_at hl 2 rfl) ?_
        refine lv_aload_n hx hb dX1_needOfAll_13 rfl (lv_at hl 0 rfl) ?_
        refine lv_aload_n hx hb dX1_needOfAll_14 rfl (lv_at hl 1 rfl) ?_
        refine g_getN (v := .ref (ad 9 k1)) hx hb hts hown hK hN hP (hLx.h (f := 7) hk1) (gC7 _ _ _ _) gcl6 iX1_needOfAll_X6 1 (by decide) 3 rfl rfl rfl dX1_needOfAll_15 ?_
        refine lv_iload_n hx hb dX1_needOfAll_18 rfl (lv_at hl 3 rfl) ?_
        have hb6 := hw.1
        have hw := hw.2
        refine g_iald hx hb hK hP (hLx.h (f := 9) hk1) (gC9 _ _ _ _) hb6 dX1_needOfAll_19 ?_
        refine g_Vi (As := [.int (M2 9 k1 x3_4.toNatClampNeg)]) (rest := [.int x2_3]) S hK hN hP hS (qX1_needOf l D E ad L A hF hLx M2 k0 (M2 9 k1 x3_4.toNatClampNeg) hk0 _ hw) (cwV 1 hts gX1_needOfAll_X1_needOf rfl rfl rfl eX1_needOf ⟨Nat.le_of_ble_eq_true rfl, Nat.le_of_ble_eq_true rfl⟩) (hLx.h (f := 2) hk0) (gC2 _ _ _ _) gcl1 rfl rfl rfl hl.1 (Nat.le_of_ble_eq_true rfl) ⟨Nat.zero_le _, Nat.zero_le _⟩ dX1_needOfAll_20 (fun r8 M7 H locs hw hP hS => ?_)
        refine lv_iadd hx hb dX1_needOfAll_23 ?_
        refine lv_istore_n (lv' := [(2, .int (x2_3 + r8)), (0, .ref (ad 2 k0)), (1, .ref (ad 7 k1)), (3, .int x3_4)]) hx hb dX1_needOfAll_24 rfl hl (by decide) rfl (fun ls hl => ?_)
        refine lv_iinc (v := (x3_4 + (1 : Int32))) (lv' := [(3, .int (x3_4 + (1 : Int32))), (2, .int (x2_3 + r8)), (0, .ref (ad 2 k0)), (1, .ref (ad 7 k1))]) hx hb dX1_needOfAll_25 hl (k := 3) rfl rfl (by decide) rfl (fun ls hl => ?_)
        refine lv_goto (tgt := 4) hx hb dX1_needOfAll_28 (by decide) ?_
        exact ihn1 _ _ _ _ _ _ hw hP hS (lv_sub hl [2, 3, 1, 0] rfl)
  exact hlX1_needOfAll_L4 n12 _ _ _ _ _ _ hw hP hS (lv_sub hl [2, 3, 1, 0] rfl)
abbrev rmX1_untriedOf : Room := { frames := 3, cells := 0, slots := 0, locals := 62 }
theorem eX1_untriedOf : yX1_untriedOf.cls = RX1 ∧ yX1_untriedOf.cls ≠ "java/lang/invoke/MethodHandle" ∧ yX1_untriedOf.cls ≠ "java/lang/invoke/VarHandle" ∧ (parseMethodDescriptor yX1_untriedOf.desc).map (fun d => d.parameters.length) = some 1 := by decide +kernel
theorem iX1_untriedOf_X6 : ∀ w ∈ wsX60, w ∈ wsX1_untriedOf := fun _ h => List.mem_cons_of_mem _ (List.mem_append_left _ (List.mem_append_right _ (h)))
set_option maxHeartbeats 4000000 in
set_option maxRecDepth 100000 in
theorem qX1_untriedOf (l : Launch) (D : va_G) (E : Nat → ClassId) (ad : Nat → Nat → Nat) (L : List (Nat × Nat)) (A : Nat → Prop) (hF : gF E ad L A) (hLx : gLx L) (M0 : gW) (k0 : Nat) (k1 : Nat) (hk0 : k0 < gN 2) (hk1 : k1 < gN 7) (K : Int32 → gW → Prop) (hw : wX1_untriedOf M0 k0 k1 K) : Met l yX1_untriedOf wsX1_untriedOf rmX1_untriedOf (va_Pc [.ref (ad 2 k0), .ref (ad 7 k1)] (gPre D E ad L M0)) (gQi D E ad L A K) 0 0 A := by
  refine Met.ofW (cc := cX1_untriedOf) (maxL := 4) (ret := (some .int)) (by decide) rfl ?_
  intro p e s m args below meth c s₁ B hml hv
  obtain ⟨rfl, hP, hK, hN⟩ := hv
  have hx := B.exec
  have hb := B.bytes
  have hr := B.returns
  have hts := atoms_spec (ws := wsX1_untriedOf) B.pre
  have hown : s.vm.findClass RX1 = some m.cls := findClass_of_methodNamed B.named
  have hlocks := B.notSynchronized
  have S : CallFix p m c cX1_untriedOf 4 s ([.ref (ad 2 k0), .ref (ad 7 k1)] : List Value).toArray wsX1_untriedOf RX1 := ⟨hx, hb, hml, hown, hts⟩
  have hS : va_S A s.heap s.heap [] := va_S.rf
  have hl := lv_entry ([.ref (ad 2 k0), .ref (ad 7 k1)]) (n := 4) (Nat.le_of_ble_eq_true rfl)
  rw [lg_entry_eq]
  generalize (lg_sl ([.ref (ad 2 k0), .ref (ad 7 k1)]) ++ List.replicate (4 - (lg_sl ([.ref (ad 2 k0), .ref (ad 7 k1)])).length) Slot.unset).toArray = ls at hl ⊢
  have hl : lv_has ls 4 [(0, .ref (ad 2 k0)), (1, .ref (ad 7 k1))] := hl
  refine lv_iconst (v := (0 : Int32)) hx hb dX1_untriedOf_0 (by decide) ?_
  refine lv_istore_n (lv' := [(2, .int (0 : Int32)), (0, .ref (ad 2 k0)), (1, .ref (ad 7 k1))]) hx hb dX1_untriedOf_1 rfl hl (by decide) rfl (fun ls hl => ?_)
  refine lv_iconst (v := (0 : Int32)) hx hb dX1_untriedOf_2 (by decide) ?_
  refine lv_istore_n (lv' := [(3, .int (0 : Int32)), (2, .int (0 : Int32)), (0, .ref (ad 2 k0)), (1, .ref (ad 7 k1))]) hx hb dX1_untriedOf_3 rfl hl (by decide) rfl (fun ls hl => ?_)
  obtain ⟨n13, hw⟩ := hw
  have hxX1_untriedOf_L4_0 : ∀ (M10 : gW) (x2_11 : Int32) (x3_12 : Int32) (H : Heap) (locs : List Loc) (ls : Array Slot), (K x2_11 M10) → va_P D vwCl (gL E ad L M10) H → va_S A s.heap H locs → lv_has ls 4 [(0, .ref (ad 2 k0)), (1, .ref (ad 7 k1)), (2, .int x2_11), (3, .int x3_12)] → W p l e (headSpec wsX1_untriedOf rmX1_untriedOf).room s m (([.ref (ad 2 k0), .ref (ad 7 k1)] : List Value).toArray) below meth c H locs 0 0 (MQ below (gQi D E ad L A K) ([.ref (ad 2 k0), .ref (ad 7 k1)] : List Value).toArray s 0 0 A) (F0 m 34 ls []) := by
    intro M10 x2_11 x3_12 H locs ls hw hP hS hl
    refine lv_iload_n hx hb dX1_untriedOf_34 rfl (lv_at hl 2 rfl) ?_
    exact g_iret hx hb hr hlocks hw hP hS dX1_untriedOf_35
  have hlX1_untriedOf_L4 : ∀ (n1 : Nat) (M2 : gW) (x2_3 : Int32) (x3_4 : Int32) (H : Heap) (locs : List Loc) (ls : Array Slot), wX1_untriedOf_L4 k0 k1 (fun M10 x2_11 x3_12 => (K x2_11 M10)) n1 M2 x2_3 x3_4 → va_P D vwCl (gL E ad L M2) H → va_S A s.heap H locs → lv_has ls 4 [(0, .ref (ad 2 k0)), (1, .ref (ad 7 k1)), (2, .int x2_3), (3, .int x3_4)] → W p l e (headSpec wsX1_untriedOf rmX1_untriedOf).room s m (([.ref (ad 2 k0), .ref (ad 7 k1)] : List Value).toArray) below meth c H locs 0 0 (MQ below (gQi D E ad L A K) ([.ref (ad 2 k0), .ref (ad 7 k1)] : List Value).toArray s 0 0 A) (F0 m 4 ls []) := by
    intro n1
    induction n1 with
    | zero => intro M2 x2_3 x3_4 H locs ls hw; exact False.elim hw
    | succ n1 ihn1 =>
      intro M2 x2_3 x3_4 H locs ls hw hP hS hl
      refine lv_iload_n hx hb dX1_untriedOf_4 rfl (lv_at hl 3 rfl) ?_
      refine lv_aload_n hx hb dX1_untriedOf_5 rfl (lv_at hl 1 rfl) ?_
      refine g_getN (v := .int (M2 7 k1 3)) hx hb hts hown hK hN hP (hLx.h (f := 7) hk1) (gC7 _ _ _ _) gcl6 iX1_untriedOf_X6 3 (by decide) 8 rfl rfl rfl dX1_untriedOf_6 ?_
      refine lv_icmp_ge (tgt := 34) hx hb dX1_untriedOf_9 (by decide) (fun c5 => ?_) (fun c5 => ?_)
      · have hw := hw.1 c5
        exact hxX1_untriedOf_L4_0 _ _ _ _ _ _ hw hP hS (lv_sub hl [0, 1, 2, 3] rfl)
      · have hw := hw.2 c5
        refine lv_aload_n hx hb dX1_untriedOf_12 rfl (lv_at hl 0 rfl) ?_
        refine lv_aload_n hx hb dX1_untriedOf_13 rfl (lv_at hl 1 rfl) ?_
        refine g_getN (v := .ref (ad 9 k1)) hx hb hts hown hK hN hP (hLx.h (f := 7) hk1) (gC7 _ _ _ _) gcl6 iX1_untriedOf_X6 1 (by decide) 3 rfl rfl rfl dX1_untriedOf_14 ?_
        refine lv_iload_n hx hb dX1_untriedOf_17 rfl (lv_at hl 3 rfl) ?_
        have hb6 := hw.1
        have hw := hw.2
        refine g_iald hx hb hK hP (hLx.h (f := 9) hk1) (gC9 _ _ _ _) hb6 dX1_untriedOf_18 ?_
        refine g_Vi (As := [.int (M2 9 k1 x3_4.toNatClampNeg)]) (rest := []) S hK hN hP hS (qX1_isUntried l D E ad L A hF hLx M2 k0 (M2 9 k1 x3_4.toNatClampNeg) hk0 _ hw) (cwV 1 hts gX1_untriedOf_X1_isUntried rfl rfl rfl eX1_isUntried ⟨Nat.le_of_ble_eq_true rfl, Nat.le_of_ble_eq_true rfl⟩) (hLx.h (f := 2) hk0) (gC2 _ _ _ _) gcl1 rfl rfl rfl hl.1 (Nat.le_of_ble_eq_true rfl) ⟨Nat.zero_le _, Nat.zero_le _⟩ dX1_untriedOf_19 (fun r8 M7 H locs hw hP hS => ?_)
        refine lv_if_eq (tgt := 28) hx hb dX1_untriedOf_22 (by decide) (fun c9 => ?_) (fun c9 => ?_)
        · have hw := hw.1 c9
          refine lv_iinc (v := (x3_4 + (1 : Int32))) (lv' := [(3, .int (x3_4 + (1 : Int32))), (0, .ref (ad 2 k0)), (1, .ref (ad 7 k1)), (2, .int x2_3)]) hx hb dX1_untriedOf_28 hl (k := 3) rfl rfl (by decide) rfl (fun ls hl => ?_)
          refine lv_goto (tgt := 4) hx hb dX1_untriedOf_31 (by decide) ?_
          exact ihn1 _ _ _ _ _ _ hw hP hS (lv_sub hl [1, 2, 3, 0] rfl)
        · have hw := hw.2 c9
          refine lv_iinc (v := (x2_3 + (1 : Int32))) (lv' := [(2, .int (x2_3 + (1 : Int32))), (0, .ref (ad 2 k0)), (1, .ref (ad 7 k1)), (3, .int x3_4)]) hx hb dX1_untriedOf_25 hl (k := 2) rfl rfl (by decide) rfl (fun ls hl => ?_)
          refine lv_iinc (v := (x3_4 + (1 : Int32))) (lv' := [(3, .int (x3_4 + (1 : Int32))), (2, .int (x2_3 + (1 : Int32))), (0, .ref (ad 2 k0)), (1, .ref (ad 7 k1))]) hx hb dX1_untriedOf_28 hl (k := 3) rfl rfl (by decide) rfl (fun ls hl => ?_)
          refine lv_goto (tgt := 4) hx hb dX1_untriedOf_31 (by decide) ?_
          exact ihn1 _ _ _ _ _ _ hw hP hS (lv_sub hl [2, 3, 1, 0] rfl)
  exact hlX1_untriedOf_L4 n13 _ _ _ _ _ _ hw hP hS (lv_sub hl [2, 3, 1, 0] rfl)
abbrev rmX1_greatestNeedOf : Room := { frames := 3, cells := 0, slots := 0, locals := 62 }
theorem eX1_greatestNeedOf : yX1_greatestNeedOf.cls = RX1 ∧ yX1_greatestNeedOf.cls ≠ "java/lang/invoke/MethodHandle" ∧ yX1_greatestNeedOf.cls ≠ "java/lang/invoke/VarHandle" ∧ (parseMethodDescriptor yX1_greatestNeedOf.desc).map (fun d => d.parameters.length) = some 1 := by decide +kernel
theorem iX1_greatestNeedOf_X6 : ∀ w ∈ wsX60, w ∈ wsX1_greatestNeedOf := fun _ h => List.mem_cons_of_mem _ (List.mem_append_left _ (List.mem_append_right _ (h)))
theorem mX1_greatestNeedOf_1 : Cond.methodLink RX1 29 Lib.Math.max.name ∈ wsX1_greatestNeedOf := List.mem_of_getElem? (i := 1) rfl
theorem mX1_greatestNeedOf_2 : Cond.static Lib.Math.max.name ∈ wsX1_greatestNeedOf := List.mem_of_getElem? (i := 2) rfl
theorem mX1_greatestNeedOf_3 : Cond.initialized "java/lang/Math" ∈ wsX1_greatestNeedOf := List.mem_of_getElem? (i := 3) rfl
theorem mX1_greatestNeedOf_4 : Cond.code Lib.Math.max.name Lib.Math.max.code 2 (some .int) ∈ wsX1_greatestNeedOf := List.mem_of_getElem? (i := 4) rfl
set_option maxHeartbeats 4000000 in
set_option maxRecDepth 100000 in
theorem qX1_greatestNeedOf (l : Launch) (D : va_G) (E : Nat → ClassId) (ad : Nat → Nat → Nat) (L : List (Nat × Nat)) (A : Nat → Prop) (hF : gF E ad L A) (hLx : gLx L) (M0 : gW) (k0 : Nat) (k1 : Nat) (hk0 : k0 < gN 2) (hk1 : k1 < gN 7) (K : Int32 → gW → Prop) (hw : wX1_greatestNeedOf M0 k0 k1 K) : Met l yX1_greatestNeedOf wsX1_greatestNeedOf rmX1_greatestNeedOf (va_Pc [.ref (ad 2 k0), .ref (ad 7 k1)] (gPre D E ad L M0)) (gQi D E ad L A K) 0 0 A := by
  refine Met.ofW (cc := cX1_greatestNeedOf) (maxL := 4) (ret := (some .int)) (by decide) rfl ?_
  intro p e s m args below meth c s₁ B hml hv
  obtain ⟨rfl, hP, hK, hN⟩ := hv
  have hx := B.exec
  have hb := B.bytes
  have hr := B.returns
  have hts := atoms_spec (ws := wsX1_greatestNeedOf) B.pre
  have hown : s.vm.findClass RX1 = some m.cls := findClass_of_methodNamed B.named
  have hlocks := B.notSynchronized
  have S : CallFix p m c cX1_greatestNeedOf 4 s ([.ref (ad 2 k0), .ref (ad 7 k1)] : List Value).toArray wsX1_greatestNeedOf RX1 := ⟨hx, hb, hml, hown, hts⟩
  have hS : va_S A s.heap s.heap [] := va_S.rf
  have hl := lv_entry ([.ref (ad 2 k0), .ref (ad 7 k1)]) (n := 4) (Nat.le_of_ble_eq_true rfl)
  rw [lg_entry_eq]
  generalize (lg_sl ([.ref (ad 2 k0), .ref (ad 7 k1)]) ++ List.replicate (4 - (lg_sl ([.ref (ad 2 k0), .ref (ad 7 k1)])).length) Slot.unset).toArray = ls at hl ⊢
  have hl : lv_has ls 4 [(0, .ref (ad 2 k0)), (1, .ref (ad 7 k1))] := hl
  refine lv_iconst (v := (0 : Int32)) hx hb dX1_greatestNeedOf_0 (by decide) ?_
  refine lv_istore_n (lv' := [(2, .int (0 : Int32)), (0, .ref (ad 2 k0)), (1, .ref (ad 7 k1))]) hx hb dX1_greatestNeedOf_1 rfl hl (by decide) rfl (fun ls hl => ?_)
  refine lv_iconst (v := (0 : Int32)) hx hb dX1_greatestNeedOf_2 (by decide) ?_
  refine lv_istore_n (lv' := [(3, .int (0 : Int32)), (2, .int (0 : Int32)), (0, .ref (ad 2 k0)), (1, .ref (ad 7 k1))]) hx hb dX1_greatestNeedOf_3 rfl hl (by decide) rfl (fun ls hl => ?_)
  obtain ⟨n12, hw⟩ := hw
  have hxX1_greatestNeedOf_L4_0 : ∀ (M9 : gW) (x2_10 : Int32) (x3_11 : Int32) (H : Heap) (locs : List Loc) (ls : Array Slot), (K x2_10 M9) → va_P D vwCl (gL E ad L M9) H → va_S A s.heap H locs → lv_has ls 4 [(0, .ref (ad 2 k0)), (1, .ref (ad 7 k1)), (2, .int x2_10), (3, .int x3_11)] → W p l e (headSpec wsX1_greatestNeedOf rmX1_greatestNeedOf).room s m (([.ref (ad 2 k0), .ref (ad 7 k1)] : List Value).toArray) below meth c H locs 0 0 (MQ below (gQi D E ad L A K) ([.ref (ad 2 k0), .ref (ad 7 k1)] : List Value).toArray s 0 0 A) (F0 m 33 ls []) := by
    intro M9 x2_10 x3_11 H locs ls hw hP hS hl
    refine lv_iload_n hx hb dX1_greatestNeedOf_33 rfl (lv_at hl 2 rfl) ?_
    exact g_iret hx hb hr hlocks hw hP hS dX1_greatestNeedOf_34
  have hlX1_greatestNeedOf_L4 : ∀ (n1 : Nat) (M2 : gW) (x2_3 : Int32) (x3_4 : Int32) (H : Heap) (locs : List Loc) (ls : Array Slot), wX1_greatestNeedOf_L4 k0 k1 (fun M9 x2_10 x3_11 => (K x2_10 M9)) n1 M2 x2_3 x3_4 → va_P D vwCl (gL E ad L M2) H → va_S A s.heap H locs → lv_has ls 4 [(0, .ref (ad 2 k0)), (1, .ref (ad 7 k1)), (2, .int x2_3), (3, .int x3_4)] → W p l e (headSpec wsX1_greatestNeedOf rmX1_greatestNeedOf).room s m (([.ref (ad 2 k0), .ref (ad 7 k1)] : List Value).toArray) below meth c H locs 0 0 (MQ below (gQi D E ad L A K) ([.ref (ad 2 k0), .ref (ad 7 k1)] : List Value).toArray s 0 0 A) (F0 m 4 ls []) := by
    intro n1
    induction n1 with
    | zero => intro M2 x2_3 x3_4 H locs ls hw; exact False.elim hw
    | succ n1 ihn1 =>
      intro M2 x2_3 x3_4 H locs ls hw hP hS hl
      refine lv_iload_n hx hb dX1_greatestNeedOf_4 rfl (lv_at hl 3 rfl) ?_
      refine lv_aload_n hx hb dX1_greatestNeedOf_5 rfl (lv_at hl 1 rfl) ?_
      refine g_getN (v := .int (M2 7 k1 3)) hx hb hts hown hK hN hP (hLx.h (f := 7) hk1) (gC7 _ _ _ _) gcl6 iX1_greatestNeedOf_X6 3 (by decide) 8 rfl rfl rfl dX1_greatestNeedOf_6 ?_
      refine lv_icmp_ge (tgt := 33) hx hb dX1_greatestNeedOf_9 (by decide) (fun c5 => ?_) (fun c5 => ?_)
      · have hw := hw.1 c5
        exact hxX1_greatestNeedOf_L4_0 _ _ _ _ _ _ hw hP hS (lv_sub hl [0, 1, 2, 3] rfl)
      · have hw := hw.2 c5
        refine lv_iload_n hx hb dX1_greatestNeedOf_12 rfl (lv_at hl 2 rfl) ?_
        refine lv_aload_n hx hb dX1_greatestNeedOf_13 rfl (lv_at hl 0 rfl) ?_
        refine lv_aload_n hx hb dX1_greatestNeedOf_14 rfl (lv_at hl 1 rfl) ?_
        refine g_getN (v := .ref (ad 9 k1)) hx hb hts hown hK hN hP (hLx.h (f := 7) hk1) (gC7 _ _ _ _) gcl6 iX1_greatestNeedOf_X6 1 (by decide) 3 rfl rfl rfl dX1_greatestNeedOf_15 ?_
        refine lv_iload_n hx hb dX1_greatestNeedOf_18 rfl (lv_at hl 3 rfl) ?_
        have hb6 := hw.1
        have hw := hw.2
        refine g_iald hx hb hK hP (hLx.h (f := 9) hk1) (gC9 _ _ _ _) hb6 dX1_greatestNeedOf_19 ?_
        refine g_Vi (As := [.int (M2 9 k1 x3_4.toNatClampNeg)]) (rest := [.int x2_3]) S hK hN hP hS (qX1_needOf l D E ad L A hF hLx M2 k0 (M2 9 k1 x3_4.toNatClampNeg) hk0 _ hw) (cwV 1 hts gX1_greatestNeedOf_X1_needOf rfl rfl rfl eX1_needOf ⟨Nat.le_of_ble_eq_true rfl, Nat.le_of_ble_eq_true rfl⟩) (hLx.h (f := 2) hk0) (gC2 _ _ _ _) gcl1 rfl rfl rfl hl.1 (Nat.le_of_ble_eq_true rfl) ⟨Nat.zero_le _, Nat.zero_le _⟩ dX1_greatestNeedOf_20 (fun r8 M7 H locs hw hP hS => ?_)
        refine va_mmax hx hb (by rw [hml]; exact hl.1.symm) hown (hts _ mX1_greatestNeedOf_1) (hts _ mX1_greatestNeedOf_2) (hts _ mX1_greatestNeedOf_3) (hts _ mX1_greatestNeedOf_4) (Nat.le_of_ble_eq_true rfl) (Nat.le_of_ble_eq_true rfl) (Nat.zero_le _) (Nat.zero_le _) dX1_greatestNeedOf_23 ?_
        refine lv_istore_n (lv' := [(2, .int (if x2_3 < r8 then r8 else x2_3)), (0, .ref (ad 2 k0)), (1, .ref (ad 7 k1)), (3, .int x3_4)]) hx hb dX1_greatestNeedOf_26 rfl hl (by decide) rfl (fun ls hl => ?_)
        refine lv_iinc (v := (x3_4 + (1 : Int32))) (lv' := [(3, .int (x3_4 + (1 : Int32))), (2, .int (if x2_3 < r8 then r8 else x2_3)), (0, .ref (ad 2 k0)), (1, .ref (ad 7 k1))]) hx hb dX1_greatestNeedOf_27 hl (k := 3) rfl rfl (by decide) rfl (fun ls hl => ?_)
        refine lv_goto (tgt := 4) hx hb dX1_greatestNeedOf_30 (by decide) ?_
        exact ihn1 _ _ _ _ _ _ hw hP hS (lv_sub hl [2, 3, 1, 0] rfl)
  exact hlX1_greatestNeedOf_L4 n12 _ _ _ _ _ _ hw hP hS (lv_sub hl [2, 3, 1, 0] rfl)
abbrev rmX1_greatestNeedFrom : Room := { frames := 3, cells := 0, slots := 0, locals := 62 }
theorem eX1_greatestNeedFrom : yX1_greatestNeedFrom.cls = RX1 ∧ yX1_greatestNeedFrom.cls ≠ "java/lang/invoke/MethodHandle" ∧ yX1_greatestNeedFrom.cls ≠ "java/lang/invoke/VarHandle" ∧ (parseMethodDescriptor yX1_greatestNeedFrom.desc).map (fun d => d.parameters.length) = some 2 := by decide +kernel
theorem mX1_greatestNeedFrom_1 : Cond.methodLink RX1 29 Lib.Math.max.name ∈ wsX1_greatestNeedFrom := List.mem_of_getElem? (i := 1) rfl
theorem mX1_greatestNeedFrom_2 : Cond.static Lib.Math.max.name ∈ wsX1_greatestNeedFrom := List.mem_of_getElem? (i := 2) rfl
theorem mX1_greatestNeedFrom_3 : Cond.initialized "java/lang/Math" ∈ wsX1_greatestNeedFrom := List.mem_of_getElem? (i := 3) rfl
theorem mX1_greatestNeedFrom_4 : Cond.code Lib.Math.max.name Lib.Math.max.code 2 (some .int) ∈ wsX1_greatestNeedFrom := List.mem_of_getElem? (i := 4) rfl
set_option maxHeartbeats 4000000 in
set_option maxRecDepth 100000 in
theorem qX1_greatestNeedFrom (l : Launch) (D : va_G) (E : Nat → ClassId) (ad : Nat → Nat → Nat) (L : List (Nat × Nat)) (A : Nat → Prop) (hF : gF E ad L A) (hLx : gLx L) (M0 : gW) (k0 : Nat) (a1 : Int32) (a2 : Int32) (hk0 : k0 < gN 2) (K : Int32 → gW → Prop) (hw : wX1_greatestNeedFrom M0 k0 a1 a2 K) : Met l yX1_greatestNeedFrom wsX1_greatestNeedFrom rmX1_greatestNeedFrom (va_Pc [.ref (ad 2 k0), .int a1, .int a2] (gPre D E ad L M0)) (gQi D E ad L A K) 0 0 A := by
  refine Met.ofW (cc := cX1_greatestNeedFrom) (maxL := 5) (ret := (some .int)) (by decide) rfl ?_
  intro p e s m args below meth c s₁ B hml hv
  obtain ⟨rfl, hP, hK, hN⟩ := hv
  have hx := B.exec
  have hb := B.bytes
  have hr := B.returns
  have hts := atoms_spec (ws := wsX1_greatestNeedFrom) B.pre
  have hown : s.vm.findClass RX1 = some m.cls := findClass_of_methodNamed B.named
  have hlocks := B.notSynchronized
  have S : CallFix p m c cX1_greatestNeedFrom 5 s ([.ref (ad 2 k0), .int a1, .int a2] : List Value).toArray wsX1_greatestNeedFrom RX1 := ⟨hx, hb, hml, hown, hts⟩
  have hS : va_S A s.heap s.heap [] := va_S.rf
  have hl := lv_entry ([.ref (ad 2 k0), .int a1, .int a2]) (n := 5) (Nat.le_of_ble_eq_true rfl)
  rw [lg_entry_eq]
  generalize (lg_sl ([.ref (ad 2 k0), .int a1, .int a2]) ++ List.replicate (5 - (lg_sl ([.ref (ad 2 k0), .int a1, .int a2])).length) Slot.unset).toArray = ls at hl ⊢
  have hl : lv_has ls 5 [(0, .ref (ad 2 k0)), (1, .int a1), (2, .int a2)] := hl
  refine lv_iconst (v := (0 : Int32)) hx hb dX1_greatestNeedFrom_0 (by decide) ?_
  refine lv_istore_n (lv' := [(3, .int (0 : Int32)), (0, .ref (ad 2 k0)), (1, .int a1), (2, .int a2)]) hx hb dX1_greatestNeedFrom_1 rfl hl (by decide) rfl (fun ls hl => ?_)
  refine lv_iload_n hx hb dX1_greatestNeedFrom_2 rfl (lv_at hl 2 rfl) ?_
  refine lv_istore (lv' := [(4, .int a1), (3, .int (0 : Int32)), (0, .ref (ad 2 k0)), (1, .int a1), (2, .int a2)]) hx hb dX1_greatestNeedFrom_3 hl (by decide) rfl (fun ls hl => ?_)
  obtain ⟨n11, hw⟩ := hw
  have hxX1_greatestNeedFrom_L5_0 : ∀ (M8 : gW) (x3_9 : Int32) (x4_10 : Int32) (H : Heap) (locs : List Loc) (ls : Array Slot), (K x3_9 M8) → va_P D vwCl (gL E ad L M8) H → va_S A s.heap H locs → lv_has ls 5 [(0, .ref (ad 2 k0)), (1, .int a1), (2, .int a2), (3, .int x3_9), (4, .int x4_10)] → W p l e (headSpec wsX1_greatestNeedFrom rmX1_greatestNeedFrom).room s m (([.ref (ad 2 k0), .int a1, .int a2] : List Value).toArray) below meth c H locs 0 0 (MQ below (gQi D E ad L A K) ([.ref (ad 2 k0), .int a1, .int a2] : List Value).toArray s 0 0 A) (F0 m 28 ls []) := by
    intro M8 x3_9 x4_10 H locs ls hw hP hS hl
    refine lv_iload_n hx hb dX1_greatestNeedFrom_28 rfl (lv_at hl 3 rfl) ?_
    exact g_iret hx hb hr hlocks hw hP hS dX1_greatestNeedFrom_29
  have hlX1_greatestNeedFrom_L5 : ∀ (n1 : Nat) (M2 : gW) (x3_3 : Int32) (x4_4 : Int32) (H : Heap) (locs : List Loc) (ls : Array Slot), wX1_greatestNeedFrom_L5 k0 a2 (fun M8 x3_9 x4_10 => (K x3_9 M8)) n1 M2 x3_3 x4_4 → va_P D vwCl (gL E ad L M2) H → va_S A s.heap H locs → lv_has ls 5 [(0, .ref (ad 2 k0)), (1, .int a1), (2, .int a2), (3, .int x3_3), (4, .int x4_4)] → W p l e (headSpec wsX1_greatestNeedFrom rmX1_greatestNeedFrom).room s m (([.ref (ad 2 k0), .int a1, .int a2] : List Value).toArray) below meth c H locs 0 0 (MQ below (gQi D E ad L A K) ([.ref (ad 2 k0), .int a1, .int a2] : List Value).toArray s 0 0 A) (F0 m 5 ls []) := by
    intro n1
    induction n1 with
    | zero => intro M2 x3_3 x4_4 H locs ls hw; exact False.elim hw
    | succ n1 ihn1 =>
      intro M2 x3_3 x4_4 H locs ls hw hP hS hl
      refine lv_iload hx hb dX1_greatestNeedFrom_5 (lv_at hl 4 rfl) ?_
      refine lv_iload_n hx hb dX1_greatestNeedFrom_7 rfl (lv_at hl 2 rfl) ?_
      refine lv_icmp_ge (tgt := 28) hx hb dX1_greatestNeedFrom_8 (by decide) (fun c5 => ?_) (fun c5 => ?_)
      · have hw := hw.1 c5
        exact hxX1_greatestNeedFrom_L5_0 _ _ _ _ _ _ hw hP hS (lv_sub hl [0, 1, 2, 3, 4] rfl)
      · have hw := hw.2 c5
        refine lv_iload_n hx hb dX1_greatestNeedFrom_11 rfl (lv_at hl 3 rfl) ?_
        refine lv_aload_n hx hb dX1_greatestNeedFrom_12 rfl (lv_at hl 0 rfl) ?_
        refine lv_iload hx hb dX1_greatestNeedFrom_13 (lv_at hl 4 rfl) ?_
        refine g_Vi (As := [.int x4_4]) (rest := [.int x3_3]) S hK hN hP hS (qX1_needOf l D E ad L A hF hLx M2 k0 x4_4 hk0 _ hw) (cwV 1 hts gX1_greatestNeedFrom_X1_needOf rfl rfl rfl eX1_needOf ⟨Nat.le_of_ble_eq_true rfl, Nat.le_of_ble_eq_true rfl⟩) (hLx.h (f := 2) hk0) (gC2 _ _ _ _) gcl1 rfl rfl rfl hl.1 (Nat.le_of_ble_eq_true rfl) ⟨Nat.zero_le _, Nat.zero_le _⟩ dX1_greatestNeedFrom_15 (fun r7 M6 H locs hw hP hS => ?_)
        refine va_mmax hx hb (by rw [hml]; exact hl.1.symm) hown (hts _ mX1_greatestNeedFrom_1) (hts _ mX1_greatestNeedFrom_2) (hts _ mX1_greatestNeedFrom_3) (hts _ mX1_greatestNeedFrom_4) (Nat.le_of_ble_eq_true rfl) (Nat.le_of_ble_eq_true rfl) (Nat.zero_le _) (Nat.zero_le _) dX1_greatestNeedFrom_18 ?_
        refine lv_istore_n (lv' := [(3, .int (if x3_3 < r7 then r7 else x3_3)), (0, .ref (ad 2 k0)), (1, .int a1), (2, .int a2), (4, .int x4_4)]) hx hb dX1_greatestNeedFrom_21 rfl hl (by decide) rfl (fun ls hl => ?_)
        refine lv_iinc (v := (x4_4 + (1 : Int32))) (lv' := [(4, .int (x4_4 + (1 : Int32))), (3, .int (if x3_3 < r7 then r7 else x3_3)), (0, .ref (ad 2 k0)), (1, .int a1), (2, .int a2)]) hx hb dX1_greatestNeedFrom_22 hl (k := 4) rfl rfl (by decide) rfl (fun ls hl => ?_)
        refine lv_goto (tgt := 5) hx hb dX1_greatestNeedFrom_25 (by decide) ?_
        exact ihn1 _ _ _ _ _ _ hw hP hS (lv_sub hl [2, 3, 4, 1, 0] rfl)
  exact hlX1_greatestNeedFrom_L5 n11 _ _ _ _ _ _ hw hP hS (lv_sub hl [2, 3, 4, 1, 0] rfl)
