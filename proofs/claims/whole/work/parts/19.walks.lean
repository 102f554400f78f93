/-! ===== LAYER 1: contracts, walked (printed by wip/whole/gen.py) ===== -/
abbrev rmX9_sheetsTo : Room := { frames := 5, cells := 0, slots := 0, locals := 117 }
theorem eX9_sheetsTo : yX9_sheetsTo.cls = RX9 ∧ yX9_sheetsTo.cls ≠ "java/lang/invoke/MethodHandle" ∧ yX9_sheetsTo.cls ≠ "java/lang/invoke/VarHandle" ∧ (parseMethodDescriptor yX9_sheetsTo.desc).map (fun d => d.parameters.length) = some 2 := by decide +kernel
theorem mX9_sheetsTo_1 : Cond.constantLong RX9 140 (99) ∈ wsX9_sheetsTo := List.mem_of_getElem? (i := 1) rfl
theorem iX9_sheetsTo_X9 : ∀ w ∈ wsX90, w ∈ wsX9_sheetsTo := fun _ h => List.mem_cons_of_mem _ (List.mem_append_right _ (h))
theorem mX9_sheetsTo_2 : Cond.fieldLink RX9 7 "PracticeSheetsModel" "all" "[I" ∈ wsX9_sheetsTo := List.mem_of_getElem? (i := 2) rfl
theorem mX9_sheetsTo_3 : Cond.fieldLink RX9 16 "PracticeSheetsModel" "tried" "[I" ∈ wsX9_sheetsTo := List.mem_of_getElem? (i := 3) rfl
theorem mX9_sheetsTo_4 : Cond.fieldLink RX9 93 "PracticeSheetsModel" "lines" "I" ∈ wsX9_sheetsTo := List.mem_of_getElem? (i := 4) rfl
set_option maxHeartbeats 4000000 in
set_option maxRecDepth 100000 in
theorem qX9_sheetsTo (l : Launch) (D : va_G) (E : Nat → ClassId) (ad : Nat → Nat → Nat) (L : List (Nat × Nat)) (A : Nat → Prop) (hF : gF E ad L A) (hLm : gLm L) (M0 : gW) (a1 : Int32) (a2 : Int32)  (K : Int32 → gW → Prop) (hw : wX9_sheetsTo M0 a1 a2 K) : Met l yX9_sheetsTo wsX9_sheetsTo rmX9_sheetsTo (va_Pc [.ref (ad 21 0), .int a1, .int a2] (gPre D E ad L M0)) (gQi D E ad L A K) 0 0 A := by
  refine Met.ofW (cc := cX9_sheetsTo) (maxL := 5) (ret := (some .int)) (by decide) rfl ?_
  intro p e s m args below meth c s₁ B hml hv
  obtain ⟨rfl, hP, hK, hN⟩ := hv
  have hx := B.exec
  have hb := B.bytes
  have hr := B.returns
  have hts := atoms_spec (ws := wsX9_sheetsTo) B.pre
  have hown : s.vm.findClass RX9 = some m.cls := findClass_of_methodNamed B.named
  have hlocks := B.notSynchronized
  have S : CallFix p m c cX9_sheetsTo 5 s ([.ref (ad 21 0), .int a1, .int a2] : List Value).toArray wsX9_sheetsTo RX9 := ⟨hx, hb, hml, hown, hts⟩
  have hS : va_S A s.heap s.heap [] := va_S.rf
  have hl := lv_entry ([.ref (ad 21 0), .int a1, .int a2]) (n := 5) (Nat.le_of_ble_eq_true rfl)
  rw [lg_entry_eq]
  generalize (lg_sl ([.ref (ad 21 0), .int a1, .int a2]) ++ List.replicate (5 - (lg_sl ([.ref (ad 21 0), .int a1, .int a2])).length) Slot.unset).toArray = ls at hl ⊢
  have hl : lv_has ls 5 [(0, .ref (ad 21 0)), (1, .int a1), (2, .int a2)] := hl
  refine lv_iload_n hx hb dX9_sheetsTo_0 rfl (lv_at hl 1 rfl) ?_
  refine g_Si (As := [.int a1]) (rest := []) S hK hN hP hS (qX9_isLines l D E ad L A hF hLm M0 a1  _ hw) (va_cwS 1 hts gX9_sheetsTo_X9_isLines rfl rfl rfl eX9_isLines.2 ⟨Nat.le_of_ble_eq_true rfl, Nat.le_of_ble_eq_true rfl⟩) rfl rfl hl.1 (Nat.le_of_ble_eq_true rfl) ⟨Nat.zero_le _, Nat.zero_le _⟩ dX9_sheetsTo_1 (fun r2 M1 H locs hw hP hS => ?_)
  refine lv_if_eq (tgt := 19) hx hb dX9_sheetsTo_4 (by decide) (fun c3 => ?_) (fun c3 => ?_)
  · have hw := hw.1 c3
    refine lv_bipush (v := (-2 : Int32)) hx hb dX9_sheetsTo_19 (by decide) ?_
    exact g_iret hx hb hr hlocks hw hP hS dX9_sheetsTo_21
  · have hw := hw.2 c3
    refine lv_iload_n hx hb dX9_sheetsTo_7 rfl (lv_at hl 2 rfl) ?_
    refine lv_i2l (v := a2.toInt64) hx hb dX9_sheetsTo_8 rfl ?_
    refine lv_lconst (v := (0 : Int64)) hx hb dX9_sheetsTo_9 (by decide) ?_
    refine lv_ldc2 (v := (99 : Int64)) hx hb hown (hts _ mX9_sheetsTo_1) dX9_sheetsTo_10 ?_
    refine g_Si (As := [.long (a2.toInt64), .long (0 : Int64), .long (99 : Int64)]) (rest := []) S hK hN hP hS (qX9_in l D E ad L A hF hLm M1 (a2.toInt64) (0 : Int64) (99 : Int64)  _ hw) (va_cwS 3 hts gX9_sheetsTo_X9_in rfl rfl rfl eX9_in.2 ⟨Nat.le_of_ble_eq_true rfl, Nat.le_of_ble_eq_true rfl⟩) rfl rfl hl.1 (Nat.le_of_ble_eq_true rfl) ⟨Nat.zero_le _, Nat.zero_le _⟩ dX9_sheetsTo_13 (fun r5 M4 H locs hw hP hS => ?_)
    refine lv_if_ne (tgt := 22) hx hb dX9_sheetsTo_16 (by decide) (fun c6 => ?_) (fun c6 => ?_)
    · have hw := hw.2 c6
      refine lv_aload_n hx hb dX9_sheetsTo_22 rfl (lv_at hl 0 rfl) ?_
      refine g_get (v := .ref (ad 22 0)) hx hb hts hown hK hP (hLm.h (f := 21) (by decide)) (gC21 _ _ _ _) gcl9 iX9_sheetsTo_X9 0 (by decide) mX9_sheetsTo_2 rfl rfl dX9_sheetsTo_23 ?_
      refine lv_aload_n hx hb dX9_sheetsTo_26 rfl (lv_at hl 0 rfl) ?_
      refine g_get (v := .ref (ad 22 2)) hx hb hts hown hK hP (hLm.h (f := 21) (by decide)) (gC21 _ _ _ _) gcl9 iX9_sheetsTo_X9 2 (by decide) mX9_sheetsTo_3 rfl rfl dX9_sheetsTo_27 ?_
      refine g_Sv (As := [.ref (ad 22 0), .ref (ad 22 2)]) (rest := []) S hK hN hP hS (qX9_copy l D E ad L A hF hLm M4 0 2 (by decide) (by decide) _ hw) (va_cwS 2 hts gX9_sheetsTo_X9_copy rfl rfl rfl eX9_copy.2 ⟨Nat.le_of_ble_eq_true rfl, Nat.le_of_ble_eq_true rfl⟩) rfl rfl hl.1 (Nat.le_of_ble_eq_true rfl) ⟨Nat.zero_le _, Nat.zero_le _⟩ dX9_sheetsTo_30 (fun M7 H locs hw hP hS => ?_)
      refine lv_iconst (v := (0 : Int32)) hx hb dX9_sheetsTo_33 (by decide) ?_
      refine lv_istore_n (lv' := [(3, .int (0 : Int32)), (0, .ref (ad 21 0)), (1, .int a1), (2, .int a2)]) hx hb dX9_sheetsTo_34 rfl hl (by decide) rfl (fun ls hl => ?_)
      refine lv_iconst (v := (1 : Int32)) hx hb dX9_sheetsTo_35 (by decide) ?_
      refine lv_istore (lv' := [(4, .int (1 : Int32)), (3, .int (0 : Int32)), (0, .ref (ad 21 0)), (1, .int a1), (2, .int a2)]) hx hb dX9_sheetsTo_36 hl (by decide) rfl (fun ls hl => ?_)
      obtain ⟨n25, hw⟩ := hw
      have hxX9_sheetsTo_L38_0 : ∀ (M20 : gW) (x3_21 : Int32) (x4_22 : Int32) (H : Heap) (locs : List Loc) (ls : Array Slot), (wX9_copy M20 2 0 (fun M23 => ((x4_22 = 0 → (K (-5 : Int32) M23)) ∧ (¬ (x4_22 = 0) → (K x3_21 M23))))) → va_P D vwCl (gL E ad L M20) H → va_S A s.heap H locs → lv_has ls 5 [(0, .ref (ad 21 0)), (1, .int a1), (2, .int a2), (3, .int x3_21), (4, .int x4_22)] → W p l e (headSpec wsX9_sheetsTo rmX9_sheetsTo).room s m (([.ref (ad 21 0), .int a1, .int a2] : List Value).toArray) below meth c H locs 0 0 (MQ below (gQi D E ad L A K) ([.ref (ad 21 0), .int a1, .int a2] : List Value).toArray s 0 0 A) (F0 m 91 ls []) := by
        intro M20 x3_21 x4_22 H locs ls hw hP hS hl
        refine lv_aload_n hx hb dX9_sheetsTo_91 rfl (lv_at hl 0 rfl) ?_
        refine g_get (v := .ref (ad 22 2)) hx hb hts hown hK hP (hLm.h (f := 21) (by decide)) (gC21 _ _ _ _) gcl9 iX9_sheetsTo_X9 2 (by decide) mX9_sheetsTo_3 rfl rfl dX9_sheetsTo_92 ?_
        refine lv_aload_n hx hb dX9_sheetsTo_95 rfl (lv_at hl 0 rfl) ?_
        refine g_get (v := .ref (ad 22 0)) hx hb hts hown hK hP (hLm.h (f := 21) (by decide)) (gC21 _ _ _ _) gcl9 iX9_sheetsTo_X9 0 (by decide) mX9_sheetsTo_2 rfl rfl dX9_sheetsTo_96 ?_
        refine g_Sv (As := [.ref (ad 22 2), .ref (ad 22 0)]) (rest := []) S hK hN hP hS (qX9_copy l D E ad L A hF hLm M20 2 0 (by decide) (by decide) _ hw) (va_cwS 2 hts gX9_sheetsTo_X9_copy rfl rfl rfl eX9_copy.2 ⟨Nat.le_of_ble_eq_true rfl, Nat.le_of_ble_eq_true rfl⟩) rfl rfl hl.1 (Nat.le_of_ble_eq_true rfl) ⟨Nat.zero_le _, Nat.zero_le _⟩ dX9_sheetsTo_99 (fun M23 H locs hw hP hS => ?_)
        refine lv_iload hx hb dX9_sheetsTo_102 (lv_at hl 4 rfl) ?_
        refine lv_if_eq (tgt := 111) hx hb dX9_sheetsTo_104 (by decide) (fun c24 => ?_) (fun c24 => ?_)
        · have hw := hw.1 c24
          refine lv_bipush (v := (-5 : Int32)) hx hb dX9_sheetsTo_111 (by decide) ?_
          exact g_iret hx hb hr hlocks hw hP hS dX9_sheetsTo_113
        · have hw := hw.2 c24
          refine lv_iload_n hx hb dX9_sheetsTo_107 rfl (lv_at hl 3 rfl) ?_
          refine lv_goto (tgt := 113) hx hb dX9_sheetsTo_108 (by decide) ?_
          exact g_iret hx hb hr hlocks hw hP hS dX9_sheetsTo_113
      have hlX9_sheetsTo_L38 : ∀ (n8 : Nat) (M9 : gW) (x3_10 : Int32) (x4_11 : Int32) (H : Heap) (locs : List Loc) (ls : Array Slot), wX9_sheetsTo_L38 a1 a2 (fun M20 x3_21 x4_22 => (wX9_copy M20 2 0 (fun M23 => ((x4_22 = 0 → (K (-5 : Int32) M23)) ∧ (¬ (x4_22 = 0) → (K x3_21 M23)))))) n8 M9 x3_10 x4_11 → va_P D vwCl (gL E ad L M9) H → va_S A s.heap H locs → lv_has ls 5 [(0, .ref (ad 21 0)), (1, .int a1), (2, .int a2), (3, .int x3_10), (4, .int x4_11)] → W p l e (headSpec wsX9_sheetsTo rmX9_sheetsTo).room s m (([.ref (ad 21 0), .int a1, .int a2] : List Value).toArray) below meth c H locs 0 0 (MQ below (gQi D E ad L A K) ([.ref (ad 21 0), .int a1, .int a2] : List Value).toArray s 0 0 A) (F0 m 38 ls []) := by
        intro n8
        induction n8 with
        | zero => intro M9 x3_10 x4_11 H locs ls hw; exact False.elim hw
        | succ n8 ihn8 =>
          intro M9 x3_10 x4_11 H locs ls hw hP hS hl
          refine lv_iload hx hb dX9_sheetsTo_38 (lv_at hl 4 rfl) ?_
          refine lv_if_eq (tgt := 91) hx hb dX9_sheetsTo_40 (by decide) (fun c12 => ?_) (fun c12 => ?_)
          · have hw := hw.1 c12
            exact hxX9_sheetsTo_L38_0 _ _ _ _ _ _ hw hP hS (lv_sub hl [0, 1, 2, 3, 4] rfl)
          · have hw := hw.2 c12
            refine lv_aload_n hx hb dX9_sheetsTo_43 rfl (lv_at hl 0 rfl) ?_
            refine g_Vi (As := []) (rest := []) S hK hN hP hS (qX9_greatestOfWords l D E ad L A hF hLm M9  _ hw) (cwV 0 hts gX9_sheetsTo_X9_greatestOfWords rfl rfl rfl eX9_greatestOfWords ⟨Nat.le_of_ble_eq_true rfl, Nat.le_of_ble_eq_true rfl⟩) (hLm.h (f := 21) (by decide)) (gC21 _ _ _ _) gcl9 rfl rfl rfl hl.1 (Nat.le_of_ble_eq_true rfl) ⟨Nat.zero_le _, Nat.zero_le _⟩ dX9_sheetsTo_44 (fun r14 M13 H locs hw hP hS => ?_)
            refine lv_iload_n hx hb dX9_sheetsTo_47 rfl (lv_at hl 2 rfl) ?_
            refine lv_icmp_le (tgt := 91) hx hb dX9_sheetsTo_48 (by decide) (fun c15 => ?_) (fun c15 => ?_)
            · have hw := hw.1 c15
              exact hxX9_sheetsTo_L38_0 _ _ _ _ _ _ hw hP hS (lv_sub hl [0, 1, 2, 3, 4] rfl)
            · have hw := hw.2 c15
              refine lv_aload_n hx hb dX9_sheetsTo_51 rfl (lv_at hl 0 rfl) ?_
              refine lv_iload_n hx hb dX9_sheetsTo_52 rfl (lv_at hl 1 rfl) ?_
              refine g_Vv (As := [.int a1]) (rest := []) S hK hN hP hS (qX9_makesSheet l D E ad L A hF hLm M13 a1  _ hw) (cwV 1 hts gX9_sheetsTo_X9_makesSheet rfl rfl rfl eX9_makesSheet ⟨Nat.le_of_ble_eq_true rfl, Nat.le_of_ble_eq_true rfl⟩) (hLm.h (f := 21) (by decide)) (gC21 _ _ _ _) gcl9 rfl rfl rfl hl.1 (Nat.le_of_ble_eq_true rfl) ⟨Nat.zero_le _, Nat.zero_le _⟩ dX9_sheetsTo_53 (fun M16 H locs hw hP hS => ?_)
              refine lv_aload_n hx hb dX9_sheetsTo_56 rfl (lv_at hl 0 rfl) ?_
              refine g_get (v := .int (M16 21 0 11)) hx hb hts hown hK hP (hLm.h (f := 21) (by decide)) (gC21 _ _ _ _) gcl9 iX9_sheetsTo_X9 11 (by decide) mX9_sheetsTo_4 rfl rfl dX9_sheetsTo_57 ?_
              refine lv_if_le (tgt := 73) hx hb dX9_sheetsTo_60 (by decide) (fun c17 => ?_) (fun c17 => ?_)
              · have hw := hw.1 c17
                refine lv_iconst (v := (0 : Int32)) hx hb dX9_sheetsTo_73 (by decide) ?_
                refine lv_istore (lv' := [(4, .int (0 : Int32)), (0, .ref (ad 21 0)), (1, .int a1), (2, .int a2), (3, .int x3_10)]) hx hb dX9_sheetsTo_74 hl (by decide) rfl (fun ls hl => ?_)
                refine lv_iload hx hb dX9_sheetsTo_76 (lv_at hl 0 rfl) ?_
                refine lv_if_eq (tgt := 38) hx hb dX9_sheetsTo_78 (by decide) (fun _ => ?_) (fun c => absurd (by decide) c)
                exact ihn8 _ _ _ _ _ _ hw hP hS (lv_sub hl [1, 2, 3, 4, 0] rfl)
              · have hw := hw.2 c17
                refine lv_iload_n hx hb dX9_sheetsTo_63 rfl (lv_at hl 3 rfl) ?_
                refine lv_bipush (v := (20 : Int32)) hx hb dX9_sheetsTo_64 (by decide) ?_
                refine lv_icmp_ge (tgt := 73) hx hb dX9_sheetsTo_66 (by decide) (fun c18 => ?_) (fun c18 => ?_)
                · have hw := hw.1 c18
                  refine lv_iconst (v := (0 : Int32)) hx hb dX9_sheetsTo_73 (by decide) ?_
                  refine lv_istore (lv' := [(4, .int (0 : Int32)), (0, .ref (ad 21 0)), (1, .int a1), (2, .int a2), (3, .int x3_10)]) hx hb dX9_sheetsTo_74 hl (by decide) rfl (fun ls hl => ?_)
                  refine lv_iload hx hb dX9_sheetsTo_76 (lv_at hl 0 rfl) ?_
                  refine lv_if_eq (tgt := 38) hx hb dX9_sheetsTo_78 (by decide) (fun _ => ?_) (fun c => absurd (by decide) c)
                  exact ihn8 _ _ _ _ _ _ hw hP hS (lv_sub hl [1, 2, 3, 4, 0] rfl)
                · have hw := hw.2 c18
                  refine lv_iconst (v := (1 : Int32)) hx hb dX9_sheetsTo_69 (by decide) ?_
                  refine lv_goto (tgt := 74) hx hb dX9_sheetsTo_70 (by decide) ?_
                  refine lv_istore (lv' := [(4, .int (1 : Int32)), (0, .ref (ad 21 0)), (1, .int a1), (2, .int a2), (3, .int x3_10)]) hx hb dX9_sheetsTo_74 hl (by decide) rfl (fun ls hl => ?_)
                  refine lv_iload hx hb dX9_sheetsTo_76 (lv_at hl 0 rfl) ?_
                  refine lv_if_eq (tgt := 38) hx hb dX9_sheetsTo_78 (by decide) (fun c => absurd c (by decide)) (fun _ => ?_)
                  refine lv_aload_n hx hb dX9_sheetsTo_81 rfl (lv_at hl 1 rfl) ?_
                  refine g_Vv (As := []) (rest := []) S hK hN hP hS (qX9_writesSheet l D E ad L A hF hLm M16  _ hw) (cwV 0 hts gX9_sheetsTo_X9_writesSheet rfl rfl rfl eX9_writesSheet ⟨Nat.le_of_ble_eq_true rfl, Nat.le_of_ble_eq_true rfl⟩) (hLm.h (f := 21) (by decide)) (gC21 _ _ _ _) gcl9 rfl rfl rfl hl.1 (Nat.le_of_ble_eq_true rfl) ⟨Nat.zero_le _, Nat.zero_le _⟩ dX9_sheetsTo_82 (fun M19 H locs hw hP hS => ?_)
                  refine lv_iinc (v := (x3_10 + (1 : Int32))) (lv' := [(3, .int (x3_10 + (1 : Int32))), (4, .int (1 : Int32)), (0, .ref (ad 21 0)), (1, .int a1), (2, .int a2)]) hx hb dX9_sheetsTo_85 hl (k := 4) rfl rfl (by decide) rfl (fun ls hl => ?_)
                  refine lv_goto (tgt := 38) hx hb dX9_sheetsTo_88 (by decide) ?_
                  exact ihn8 _ _ _ _ _ _ hw hP hS (lv_sub hl [2, 3, 4, 0, 1] rfl)
      exact hlX9_sheetsTo_L38 n25 _ _ _ _ _ _ hw hP hS (lv_sub hl [2, 3, 4, 1, 0] rfl)
    · have hw := hw.1 c6
      refine lv_bipush (v := (-2 : Int32)) hx hb dX9_sheetsTo_19 (by decide) ?_
      exact g_iret hx hb hr hlocks hw hP hS dX9_sheetsTo_21
abbrev rmX9_greatestNeed : Room := { frames := 1, cells := 0, slots := 0, locals := 21 }
theorem eX9_greatestNeed : yX9_greatestNeed.cls = RX9 ∧ yX9_greatestNeed.cls ≠ "java/lang/invoke/MethodHandle" ∧ yX9_greatestNeed.cls ≠ "java/lang/invoke/VarHandle" ∧ (parseMethodDescriptor yX9_greatestNeed.desc).map (fun d => d.parameters.length) = some 2 := by decide +kernel
set_option maxHeartbeats 4000000 in
set_option maxRecDepth 100000 in
theorem qX9_greatestNeed (l : Launch) (D : va_G) (E : Nat → ClassId) (ad : Nat → Nat → Nat) (L : List (Nat × Nat)) (A : Nat → Prop) (hF : gF E ad L A) (hLm : gLm L) (M0 : gW) (a1 : Int32) (a2 : Int32)  (K : Int32 → gW → Prop) (hw : wX9_greatestNeed M0 a1 a2 K) : Met l yX9_greatestNeed wsX9_greatestNeed rmX9_greatestNeed (va_Pc [.ref (ad 21 0), .int a1, .int a2] (gPre D E ad L M0)) (gQi D E ad L A K) 0 0 A := by
  refine Met.ofW (cc := cX9_greatestNeed) (maxL := 5) (ret := (some .int)) (by decide) rfl ?_
  intro p e s m args below meth c s₁ B hml hv
  obtain ⟨rfl, hP, hK, hN⟩ := hv
  have hx := B.exec
  have hb := B.bytes
  have hr := B.returns
  have hts := atoms_spec (ws := wsX9_greatestNeed) B.pre
  have hown : s.vm.findClass RX9 = some m.cls := findClass_of_methodNamed B.named
  have hlocks := B.notSynchronized
  have S : CallFix p m c cX9_greatestNeed 5 s ([.ref (ad 21 0), .int a1, .int a2] : List Value).toArray wsX9_greatestNeed RX9 := ⟨hx, hb, hml, hown, hts⟩
  have hS : va_S A s.heap s.heap [] := va_S.rf
  have hl := lv_entry ([.ref (ad 21 0), .int a1, .int a2]) (n := 5) (Nat.le_of_ble_eq_true rfl)
  rw [lg_entry_eq]
  generalize (lg_sl ([.ref (ad 21 0), .int a1, .int a2]) ++ List.replicate (5 - (lg_sl ([.ref (ad 21 0), .int a1, .int a2])).length) Slot.unset).toArray = ls at hl ⊢
  have hl : lv_has ls 5 [(0, .ref (ad 21 0)), (1, .int a1), (2, .int a2)] := hl
  refine lv_iconst (v := (0 : Int32)) hx hb dX9_greatestNeed_0 (by decide) ?_
  refine lv_istore_n (lv' := [(3, .int (0 : Int32)), (0, .ref (ad 21 0)), (1, .int a1), (2, .int a2)]) hx hb dX9_greatestNeed_1 rfl hl (by decide) rfl (fun ls hl => ?_)
  refine lv_iload_n hx hb dX9_greatestNeed_2 rfl (lv_at hl 2 rfl) ?_
  refine lv_istore (lv' := [(4, .int a1), (3, .int (0 : Int32)), (0, .ref (ad 21 0)), (1, .int a1), (2, .int a2)]) hx hb dX9_greatestNeed_3 hl (by decide) rfl (fun ls hl => ?_)
  obtain ⟨n14, hw⟩ := hw
  have hxX9_greatestNeed_L5_0 : ∀ (M11 : gW) (x3_12 : Int32) (x4_13 : Int32) (H : Heap) (locs : List Loc) (ls : Array Slot), (K x3_12 M11) → va_P D vwCl (gL E ad L M11) H → va_S A s.heap H locs → lv_has ls 5 [(0, .ref (ad 21 0)), (1, .int a1), (2, .int a2), (3, .int x3_12), (4, .int x4_13)] → W p l e (headSpec wsX9_greatestNeed rmX9_greatestNeed).room s m (([.ref (ad 21 0), .int a1, .int a2] : List Value).toArray) below meth c H locs 0 0 (MQ below (gQi D E ad L A K) ([.ref (ad 21 0), .int a1, .int a2] : List Value).toArray s 0 0 A) (F0 m 38 ls []) := by
    intro M11 x3_12 x4_13 H locs ls hw hP hS hl
    refine lv_iload_n hx hb dX9_greatestNeed_38 rfl (lv_at hl 3 rfl) ?_
    exact g_iret hx hb hr hlocks hw hP hS dX9_greatestNeed_39
  have hlX9_greatestNeed_L5 : ∀ (n1 : Nat) (M2 : gW) (x3_3 : Int32) (x4_4 : Int32) (H : Heap) (locs : List Loc) (ls : Array Slot), wX9_greatestNeed_L5 a2 (fun M11 x3_12 x4_13 => (K x3_12 M11)) n1 M2 x3_3 x4_4 → va_P D vwCl (gL E ad L M2) H → va_S A s.heap H locs → lv_has ls 5 [(0, .ref (ad 21 0)), (1, .int a1), (2, .int a2), (3, .int x3_3), (4, .int x4_4)] → W p l e (headSpec wsX9_greatestNeed rmX9_greatestNeed).room s m (([.ref (ad 21 0), .int a1, .int a2] : List Value).toArray) below meth c H locs 0 0 (MQ below (gQi D E ad L A K) ([.ref (ad 21 0), .int a1, .int a2] : List Value).toArray s 0 0 A) (F0 m 5 ls []) := by
    intro n1
    induction n1 with
    | zero => intro M2 x3_3 x4_4 H locs ls hw; exact False.elim hw
    | succ n1 ihn1 =>
      intro M2 x3_3 x4_4 H locs ls hw hP hS hl
      refine lv_iload hx hb dX9_greatestNeed_5 (lv_at hl 4 rfl) ?_
      refine lv_iload_n hx hb dX9_greatestNeed_7 rfl (lv_at hl 2 rfl) ?_
      refine lv_icmp_ge (tgt := 38) hx hb dX9_greatestNeed_8 (by decide) (fun c5 => ?_) (fun c5 => ?_)
      · have hw := hw.1 c5
        exact hxX9_greatestNeed_L5_0 _ _ _ _ _ _ hw hP hS (lv_sub hl [0, 1, 2, 3, 4] rfl)
      · have hw := hw.2 c5
        refine lv_aload_n hx hb dX9_greatestNeed_11 rfl (lv_at hl 0 rfl) ?_
        refine lv_iload hx hb dX9_greatestNeed_12 (lv_at hl 4 rfl) ?_
        refine g_Vi (As := [.int x4_4]) (rest := []) S hK hN hP hS (qX9_needOf l D E ad L A hF hLm M2 x4_4  _ hw) (cwV 1 hts gX9_greatestNeed_X9_needOf rfl rfl rfl eX9_needOf ⟨Nat.le_of_ble_eq_true rfl, Nat.le_of_ble_eq_true rfl⟩) (hLm.h (f := 21) (by decide)) (gC21 _ _ _ _) gcl9 rfl rfl rfl hl.1 (Nat.le_of_ble_eq_true rfl) ⟨Nat.zero_le _, Nat.zero_le _⟩ dX9_greatestNeed_14 (fun r7 M6 H locs hw hP hS => ?_)
        refine lv_iload_n hx hb dX9_greatestNeed_17 rfl (lv_at hl 3 rfl) ?_
        refine lv_icmp_le (tgt := 30) hx hb dX9_greatestNeed_18 (by decide) (fun c8 => ?_) (fun c8 => ?_)
        · have hw := hw.1 c8
          refine lv_iload_n hx hb dX9_greatestNeed_30 rfl (lv_at hl 3 rfl) ?_
          refine lv_istore_n (lv' := [(3, .int x3_3), (0, .ref (ad 21 0)), (1, .int a1), (2, .int a2), (4, .int x4_4)]) hx hb dX9_greatestNeed_31 rfl hl (by decide) rfl (fun ls hl => ?_)
          refine lv_iinc (v := (x4_4 + (1 : Int32))) (lv' := [(4, .int (x4_4 + (1 : Int32))), (3, .int x3_3), (0, .ref (ad 21 0)), (1, .int a1), (2, .int a2)]) hx hb dX9_greatestNeed_32 hl (k := 4) rfl rfl (by decide) rfl (fun ls hl => ?_)
          refine lv_goto (tgt := 5) hx hb dX9_greatestNeed_35 (by decide) ?_
          exact ihn1 _ _ _ _ _ _ hw hP hS (lv_sub hl [2, 3, 4, 1, 0] rfl)
        · have hw := hw.2 c8
          refine lv_aload_n hx hb dX9_greatestNeed_21 rfl (lv_at hl 0 rfl) ?_
          refine lv_iload hx hb dX9_greatestNeed_22 (lv_at hl 4 rfl) ?_
          refine g_Vi (As := [.int x4_4]) (rest := []) S hK hN hP hS (qX9_needOf l D E ad L A hF hLm M6 x4_4  _ hw) (cwV 1 hts gX9_greatestNeed_X9_needOf rfl rfl rfl eX9_needOf ⟨Nat.le_of_ble_eq_true rfl, Nat.le_of_ble_eq_true rfl⟩) (hLm.h (f := 21) (by decide)) (gC21 _ _ _ _) gcl9 rfl rfl rfl hl.1 (Nat.le_of_ble_eq_true rfl) ⟨Nat.zero_le _, Nat.zero_le _⟩ dX9_greatestNeed_24 (fun r10 M9 H locs hw hP hS => ?_)
          refine lv_goto (tgt := 31) hx hb dX9_greatestNeed_27 (by decide) ?_
          refine lv_istore_n (lv' := [(3, .int r10), (0, .ref (ad 21 0)), (1, .int a1), (2, .int a2), (4, .int x4_4)]) hx hb dX9_greatestNeed_31 rfl hl (by decide) rfl (fun ls hl => ?_)
          refine lv_iinc (v := (x4_4 + (1 : Int32))) (lv' := [(4, .int (x4_4 + (1 : Int32))), (3, .int r10), (0, .ref (ad 21 0)), (1, .int a1), (2, .int a2)]) hx hb dX9_greatestNeed_32 hl (k := 4) rfl rfl (by decide) rfl (fun ls hl => ?_)
          refine lv_goto (tgt := 5) hx hb dX9_greatestNeed_35 (by decide) ?_
          exact ihn1 _ _ _ _ _ _ hw hP hS (lv_sub hl [2, 3, 4, 1, 0] rfl)
  exact hlX9_greatestNeed_L5 n14 _ _ _ _ _ _ hw hP hS (lv_sub hl [2, 3, 4, 1, 0] rfl)
abbrev rmX9_untriedIn : Room := { frames := 1, cells := 0, slots := 0, locals := 21 }
theorem eX9_untriedIn : yX9_untriedIn.cls = RX9 ∧ yX9_untriedIn.cls ≠ "java/lang/invoke/MethodHandle" ∧ yX9_untriedIn.cls ≠ "java/lang/invoke/VarHandle" ∧ (parseMethodDescriptor yX9_untriedIn.desc).map (fun d => d.parameters.length) = some 2 := by decide +kernel
set_option maxHeartbeats 4000000 in
set_option maxRecDepth 100000 in
theorem qX9_untriedIn (l : Launch) (D : va_G) (E : Nat → ClassId) (ad : Nat → Nat → Nat) (L : List (Nat × Nat)) (A : Nat → Prop) (hF : gF E ad L A) (hLm : gLm L) (M0 : gW) (a1 : Int32) (a2 : Int32)  (K : Int32 → gW → Prop) (hw : wX9_untriedIn M0 a1 a2 K) : Met l yX9_untriedIn wsX9_untriedIn rmX9_untriedIn (va_Pc [.ref (ad 21 0), .int a1, .int a2] (gPre D E ad L M0)) (gQi D E ad L A K) 0 0 A := by
  refine Met.ofW (cc := cX9_untriedIn) (maxL := 5) (ret := (some .int)) (by decide) rfl ?_
  intro p e s m args below meth c s₁ B hml hv
  obtain ⟨rfl, hP, hK, hN⟩ := hv
  have hx := B.exec
  have hb := B.bytes
  have hr := B.returns
  have hts := atoms_spec (ws := wsX9_untriedIn) B.pre
  have hown : s.vm.findClass RX9 = some m.cls := findClass_of_methodNamed B.named
  have hlocks := B.notSynchronized
  have S : CallFix p m c cX9_untriedIn 5 s ([.ref (ad 21 0), .int a1, .int a2] : List Value).toArray wsX9_untriedIn RX9 := ⟨hx, hb, hml, hown, hts⟩
  have hS : va_S A s.heap s.heap [] := va_S.rf
  have hl := lv_entry ([.ref (ad 21 0), .int a1, .int a2]) (n := 5) (Nat.le_of_ble_eq_true rfl)
  rw [lg_entry_eq]
  generalize (lg_sl ([.ref (ad 21 0), .int a1, .int a2]) ++ List.replicate (5 - (lg_sl ([.ref (ad 21 0), .int a1, .int a2])).length) Slot.unset).toArray = ls at hl ⊢
  have hl : lv_has ls 5 [(0, .ref (ad 21 0)), (1, .int a1), (2, .int a2)] := hl
  refine lv_iconst (v := (0 : Int32)) hx hb dX9_untriedIn_0 (by decide) ?_
  refine lv_istore_n (lv' := [(3, .int (0 : Int32)), (0, .ref (ad 21 0)), (1, .int a1), (2, .int a2)]) hx hb dX9_untriedIn_1 rfl hl (by decide) rfl (fun ls hl => ?_)
  refine lv_iload_n hx hb dX9_untriedIn_2 rfl (lv_at hl 2 rfl) ?_
  refine lv_istore (lv' := [(4, .int a1), (3, .int (0 : Int32)), (0, .ref (ad 21 0)), (1, .int a1), (2, .int a2)]) hx hb dX9_untriedIn_3 hl (by decide) rfl (fun ls hl => ?_)
  obtain ⟨n12, hw⟩ := hw
  have hxX9_untriedIn_L5_0 : ∀ (M9 : gW) (x3_10 : Int32) (x4_11 : Int32) (H : Heap) (locs : List Loc) (ls : Array Slot), (K x3_10 M9) → va_P D vwCl (gL E ad L M9) H → va_S A s.heap H locs → lv_has ls 5 [(0, .ref (ad 21 0)), (1, .int a1), (2, .int a2), (3, .int x3_10), (4, .int x4_11)] → W p l e (headSpec wsX9_untriedIn rmX9_untriedIn).room s m (([.ref (ad 21 0), .int a1, .int a2] : List Value).toArray) below meth c H locs 0 0 (MQ below (gQi D E ad L A K) ([.ref (ad 21 0), .int a1, .int a2] : List Value).toArray s 0 0 A) (F0 m 34 ls []) := by
    intro M9 x3_10 x4_11 H locs ls hw hP hS hl
    refine lv_iload_n hx hb dX9_untriedIn_34 rfl (lv_at hl 3 rfl) ?_
    exact g_iret hx hb hr hlocks hw hP hS dX9_untriedIn_35
  have hlX9_untriedIn_L5 : ∀ (n1 : Nat) (M2 : gW) (x3_3 : Int32) (x4_4 : Int32) (H : Heap) (locs : List Loc) (ls : Array Slot), wX9_untriedIn_L5 a2 (fun M9 x3_10 x4_11 => (K x3_10 M9)) n1 M2 x3_3 x4_4 → va_P D vwCl (gL E ad L M2) H → va_S A s.heap H locs → lv_has ls 5 [(0, .ref (ad 21 0)), (1, .int a1), (2, .int a2), (3, .int x3_3), (4, .int x4_4)] → W p l e (headSpec wsX9_untriedIn rmX9_untriedIn).room s m (([.ref (ad 21 0), .int a1, .int a2] : List Value).toArray) below meth c H locs 0 0 (MQ below (gQi D E ad L A K) ([.ref (ad 21 0), .int a1, .int a2] : List Value).toArray s 0 0 A) (F0 m 5 ls []) := by
    intro n1
    induction n1 with
    | zero => intro M2 x3_3 x4_4 H locs ls hw; exact False.elim hw
    | succ n1 ihn1 =>
      intro M2 x3_3 x4_4 H locs ls hw hP hS hl
      refine lv_iload hx hb dX9_untriedIn_5 (lv_at hl 4 rfl) ?_
      refine lv_iload_n hx hb dX9_untriedIn_7 rfl (lv_at hl 2 rfl) ?_
      refine lv_icmp_ge (tgt := 34) hx hb dX9_untriedIn_8 (by decide) (fun c5 => ?_) (fun c5 => ?_)
      · have hw := hw.1 c5
        exact hxX9_untriedIn_L5_0 _ _ _ _ _ _ hw hP hS (lv_sub hl [0, 1, 2, 3, 4] rfl)
      · have hw := hw.2 c5
        refine lv_iload_n hx hb dX9_untriedIn_11 rfl (lv_at hl 3 rfl) ?_
        refine lv_aload_n hx hb dX9_untriedIn_12 rfl (lv_at hl 0 rfl) ?_
        refine lv_iload hx hb dX9_untriedIn_13 (lv_at hl 4 rfl) ?_
        refine g_Vi (As := [.int x4_4]) (rest := [.int x3_3]) S hK hN hP hS (qX9_isUntried l D E ad L A hF hLm M2 x4_4  _ hw) (cwV 1 hts gX9_untriedIn_X9_isUntried rfl rfl rfl eX9_isUntried ⟨Nat.le_of_ble_eq_true rfl, Nat.le_of_ble_eq_true rfl⟩) (hLm.h (f := 21) (by decide)) (gC21 _ _ _ _) gcl9 rfl rfl rfl hl.1 (Nat.le_of_ble_eq_true rfl) ⟨Nat.zero_le _, Nat.zero_le _⟩ dX9_untriedIn_15 (fun r7 M6 H locs hw hP hS => ?_)
        refine lv_if_eq (tgt := 25) hx hb dX9_untriedIn_18 (by decide) (fun c8 => ?_) (fun c8 => ?_)
        · have hw := hw.1 c8
          refine lv_iconst (v := (0 : Int32)) hx hb dX9_untriedIn_25 (by decide) ?_
          refine lv_iadd hx hb dX9_untriedIn_26 ?_
          refine lv_istore_n (lv' := [(3, .int (x3_3 + (0 : Int32))), (0, .ref (ad 21 0)), (1, .int a1), (2, .int a2), (4, .int x4_4)]) hx hb dX9_untriedIn_27 rfl hl (by decide) rfl (fun ls hl => ?_)
          refine lv_iinc (v := (x4_4 + (1 : Int32))) (lv' := [(4, .int (x4_4 + (1 : Int32))), (3, .int (x3_3 + (0 : Int32))), (0, .ref (ad 21 0)), (1, .int a1), (2, .int a2)]) hx hb dX9_untriedIn_28 hl (k := 4) rfl rfl (by decide) rfl (fun ls hl => ?_)
          refine lv_goto (tgt := 5) hx hb dX9_untriedIn_31 (by decide) ?_
          exact ihn1 _ _ _ _ _ _ hw hP hS (lv_sub hl [2, 3, 4, 1, 0] rfl)
        · have hw := hw.2 c8
          refine lv_iconst (v := (1 : Int32)) hx hb dX9_untriedIn_21 (by decide) ?_
          refine lv_goto (tgt := 26) hx hb dX9_untriedIn_22 (by decide) ?_
          refine lv_iadd hx hb dX9_untriedIn_26 ?_
          refine lv_istore_n (lv' := [(3, .int (x3_3 + (1 : Int32))), (0, .ref (ad 21 0)), (1, .int a1), (2, .int a2), (4, .int x4_4)]) hx hb dX9_untriedIn_27 rfl hl (by decide) rfl (fun ls hl => ?_)
          refine lv_iinc (v := (x4_4 + (1 : Int32))) (lv' := [(4, .int (x4_4 + (1 : Int32))), (3, .int (x3_3 + (1 : Int32))), (0, .ref (ad 21 0)), (1, .int a1), (2, .int a2)]) hx hb dX9_untriedIn_28 hl (k := 4) rfl rfl (by decide) rfl (fun ls hl => ?_)
          refine lv_goto (tgt := 5) hx hb dX9_untriedIn_31 (by decide) ?_
          exact ihn1 _ _ _ _ _ _ hw hP hS (lv_sub hl [2, 3, 4, 1, 0] rfl)
  exact hlX9_untriedIn_L5 n12 _ _ _ _ _ _ hw hP hS (lv_sub hl [2, 3, 4, 1, 0] rfl)
abbrev rmX9_count : Room := { frames := 2, cells := 0, slots := 0, locals := 45 }
theorem eX9_count : yX9_count.cls = RX9 ∧ yX9_count.cls ≠ "java/lang/invoke/MethodHandle" ∧ yX9_count.cls ≠ "java/lang/invoke/VarHandle" ∧ (parseMethodDescriptor yX9_count.desc).map (fun d => d.parameters.length) = some 1 := by decide +kernel
theorem iX9_count_X9 : ∀ w ∈ wsX90, w ∈ wsX9_count := fun _ h => List.mem_cons_of_mem _ (List.mem_append_right _ (h))
theorem mX9_count_1 : Cond.fieldLink RX9 7 "PracticeSheetsModel" "all" "[I" ∈ wsX9_count := List.mem_of_getElem? (i := 1) rfl
theorem mX9_count_2 : Cond.fieldLink RX9 53 "PracticeSheetsModel" "historyLong" "I" ∈ wsX9_count := List.mem_of_getElem? (i := 2) rfl
theorem mX9_count_3 : Cond.fieldLink RX9 113 "PracticeSheetsModel" "textLong" "I" ∈ wsX9_count := List.mem_of_getElem? (i := 3) rfl
set_option maxHeartbeats 4000000 in
set_option maxRecDepth 100000 in
theorem qX9_count (l : Launch) (D : va_G) (E : Nat → ClassId) (ad : Nat → Nat → Nat) (L : List (Nat × Nat)) (A : Nat → Prop) (hF : gF E ad L A) (hLm : gLm L) (M0 : gW) (a1 : Int32)  (K : Int32 → gW → Prop) (hw : wX9_count M0 a1 K) : Met l yX9_count wsX9_count rmX9_count (va_Pc [.ref (ad 21 0), .int a1] (gPre D E ad L M0)) (gQi D E ad L A K) 0 0 A := by
  refine Met.ofW (cc := cX9_count) (maxL := 2) (ret := (some .int)) (by decide) rfl ?_
  intro p e s m args below meth c s₁ B hml hv
  obtain ⟨rfl, hP, hK, hN⟩ := hv
  have hx := B.exec
  have hb := B.bytes
  have hr := B.returns
  have hts := atoms_spec (ws := wsX9_count) B.pre
  have hown : s.vm.findClass RX9 = some m.cls := findClass_of_methodNamed B.named
  have hlocks := B.notSynchronized
  have S : CallFix p m c cX9_count 2 s ([.ref (ad 21 0), .int a1] : List Value).toArray wsX9_count RX9 := ⟨hx, hb, hml, hown, hts⟩
  have hS : va_S A s.heap s.heap [] := va_S.rf
  have hl := lv_entry ([.ref (ad 21 0), .int a1]) (n := 2) (Nat.le_of_ble_eq_true rfl)
  rw [lg_entry_eq]
  generalize (lg_sl ([.ref (ad 21 0), .int a1]) ++ List.replicate (2 - (lg_sl ([.ref (ad 21 0), .int a1])).length) Slot.unset).toArray = ls at hl ⊢
  have hl : lv_has ls 2 [(0, .ref (ad 21 0)), (1, .int a1)] := hl
  refine lv_iload_n hx hb dX9_count_0 rfl (lv_at hl 1 rfl) ?_
  by_cases c1 : a1 = (0 : Int32)
  · have hw := hw.1 c1
    refine g_swK (tgt := 64) hx hb dX9_count_1 0 c1 (by decide) (by decide) rfl (by decide) ?_
    refine lv_aload_n hx hb dX9_count_64 rfl (lv_at hl 0 rfl) ?_
    refine g_get (v := .ref (ad 22 0)) hx hb hts hown hK hP (hLm.h (f := 21) (by decide)) (gC21 _ _ _ _) gcl9 iX9_count_X9 0 (by decide) mX9_count_1 rfl rfl dX9_count_65 ?_
    refine lv_iconst (v := (5 : Int32)) hx hb dX9_count_68 (by decide) ?_
    have hb2 := hw.1
    have hw := hw.2
    refine g_iald (n := 1730) hx hb hK hP (hLm.h (f := 22) (by decide)) rfl hb2 dX9_count_69 ?_
    exact g_iret hx hb hr hlocks hw hP hS dX9_count_70
  · 
    by_cases c3 : a1 = (1 : Int32)
    · have hw := hw.2.1 c3
      refine g_swK (tgt := 71) hx hb dX9_count_1 1 c3 (by decide) (by decide) rfl (by decide) ?_
      refine lv_aload_n hx hb dX9_count_71 rfl (lv_at hl 0 rfl) ?_
      refine g_get (v := .ref (ad 22 0)) hx hb hts hown hK hP (hLm.h (f := 21) (by decide)) (gC21 _ _ _ _) gcl9 iX9_count_X9 0 (by decide) mX9_count_1 rfl rfl dX9_count_72 ?_
      refine lv_iconst (v := (1 : Int32)) hx hb dX9_count_75 (by decide) ?_
      have hb4 := hw.1
      have hw := hw.2
      refine g_iald (n := 1730) hx hb hK hP (hLm.h (f := 22) (by decide)) rfl hb4 dX9_count_76 ?_
      exact g_iret hx hb hr hlocks hw hP hS dX9_count_77
    · 
      by_cases c5 : a1 = (2 : Int32)
      · have hw := hw.2.2.1 c5
        refine g_swK (tgt := 78) hx hb dX9_count_1 2 c5 (by decide) (by decide) rfl (by decide) ?_
        refine lv_aload_n hx hb dX9_count_78 rfl (lv_at hl 0 rfl) ?_
        refine g_get (v := .ref (ad 22 0)) hx hb hts hown hK hP (hLm.h (f := 21) (by decide)) (gC21 _ _ _ _) gcl9 iX9_count_X9 0 (by decide) mX9_count_1 rfl rfl dX9_count_79 ?_
        refine lv_iconst (v := (0 : Int32)) hx hb dX9_count_82 (by decide) ?_
        have hb6 := hw.1
        have hw := hw.2
        refine g_iald (n := 1730) hx hb hK hP (hLm.h (f := 22) (by decide)) rfl hb6 dX9_count_83 ?_
        exact g_iret hx hb hr hlocks hw hP hS dX9_count_84
      · 
        by_cases c7 : a1 = (3 : Int32)
        · have hw := hw.2.2.2.1 c7
          refine g_swK (tgt := 85) hx hb dX9_count_1 3 c7 (by decide) (by decide) rfl (by decide) ?_
          refine lv_aload_n hx hb dX9_count_85 rfl (lv_at hl 0 rfl) ?_
          refine lv_iconst (v := (0 : Int32)) hx hb dX9_count_86 (by decide) ?_
          refine lv_bipush (v := (26 : Int32)) hx hb dX9_count_87 (by decide) ?_
          refine g_Vi (As := [.int (0 : Int32), .int (26 : Int32)]) (rest := []) S hK hN hP hS (qX9_untriedIn l D E ad L A hF hLm M0 (0 : Int32) (26 : Int32)  _ hw) (cwV 2 hts gX9_count_X9_untriedIn rfl rfl rfl eX9_untriedIn ⟨Nat.le_of_ble_eq_true rfl, Nat.le_of_ble_eq_true rfl⟩) (hLm.h (f := 21) (by decide)) (gC21 _ _ _ _) gcl9 rfl rfl rfl hl.1 (Nat.le_of_ble_eq_true rfl) ⟨Nat.zero_le _, Nat.zero_le _⟩ dX9_count_89 (fun r9 M8 H locs hw hP hS => ?_)
          exact g_iret hx hb hr hlocks hw hP hS dX9_count_92
        · 
          by_cases c10 : a1 = (4 : Int32)
          · have hw := hw.2.2.2.2.1 c10
            refine g_swK (tgt := 93) hx hb dX9_count_1 4 c10 (by decide) (by decide) rfl (by decide) ?_
            refine lv_sipush (v := (676 : Int32)) hx hb dX9_count_93 (by decide) ?_
            refine lv_aload_n hx hb dX9_count_96 rfl (lv_at hl 0 rfl) ?_
            refine lv_bipush (v := (26 : Int32)) hx hb dX9_count_97 (by decide) ?_
            refine lv_sipush (v := (702 : Int32)) hx hb dX9_count_99 (by decide) ?_
            refine g_Vi (As := [.int (26 : Int32), .int (702 : Int32)]) (rest := [.int (676 : Int32)]) S hK hN hP hS (qX9_untriedIn l D E ad L A hF hLm M0 (26 : Int32) (702 : Int32)  _ hw) (cwV 2 hts gX9_count_X9_untriedIn rfl rfl rfl eX9_untriedIn ⟨Nat.le_of_ble_eq_true rfl, Nat.le_of_ble_eq_true rfl⟩) (hLm.h (f := 21) (by decide)) (gC21 _ _ _ _) gcl9 rfl rfl rfl hl.1 (Nat.le_of_ble_eq_true rfl) ⟨Nat.zero_le _, Nat.zero_le _⟩ dX9_count_102 (fun r12 M11 H locs hw hP hS => ?_)
            refine lv_isub hx hb dX9_count_105 ?_
            exact g_iret hx hb hr hlocks hw hP hS dX9_count_106
          · 
            by_cases c13 : a1 = (5 : Int32)
            · have hw := hw.2.2.2.2.2.1 c13
              refine g_swK (tgt := 107) hx hb dX9_count_1 5 c13 (by decide) (by decide) rfl (by decide) ?_
              refine lv_aload_n hx hb dX9_count_107 rfl (lv_at hl 0 rfl) ?_
              refine lv_iconst (v := (0 : Int32)) hx hb dX9_count_108 (by decide) ?_
              refine lv_bipush (v := (26 : Int32)) hx hb dX9_count_109 (by decide) ?_
              refine g_Vi (As := [.int (0 : Int32), .int (26 : Int32)]) (rest := []) S hK hN hP hS (qX9_greatestNeed l D E ad L A hF hLm M0 (0 : Int32) (26 : Int32)  _ hw) (cwV 2 hts gX9_count_X9_greatestNeed rfl rfl rfl eX9_greatestNeed ⟨Nat.le_of_ble_eq_true rfl, Nat.le_of_ble_eq_true rfl⟩) (hLm.h (f := 21) (by decide)) (gC21 _ _ _ _) gcl9 rfl rfl rfl hl.1 (Nat.le_of_ble_eq_true rfl) ⟨Nat.zero_le _, Nat.zero_le _⟩ dX9_count_111 (fun r15 M14 H locs hw hP hS => ?_)
              exact g_iret hx hb hr hlocks hw hP hS dX9_count_114
            · 
              by_cases c16 : a1 = (6 : Int32)
              · have hw := hw.2.2.2.2.2.2.1 c16
                refine g_swK (tgt := 115) hx hb dX9_count_1 6 c16 (by decide) (by decide) rfl (by decide) ?_
                refine lv_aload_n hx hb dX9_count_115 rfl (lv_at hl 0 rfl) ?_
                refine lv_bipush (v := (26 : Int32)) hx hb dX9_count_116 (by decide) ?_
                refine lv_sipush (v := (702 : Int32)) hx hb dX9_count_118 (by decide) ?_
                refine g_Vi (As := [.int (26 : Int32), .int (702 : Int32)]) (rest := []) S hK hN hP hS (qX9_greatestNeed l D E ad L A hF hLm M0 (26 : Int32) (702 : Int32)  _ hw) (cwV 2 hts gX9_count_X9_greatestNeed rfl rfl rfl eX9_greatestNeed ⟨Nat.le_of_ble_eq_true rfl, Nat.le_of_ble_eq_true rfl⟩) (hLm.h (f := 21) (by decide)) (gC21 _ _ _ _) gcl9 rfl rfl rfl hl.1 (Nat.le_of_ble_eq_true rfl) ⟨Nat.zero_le _, Nat.zero_le _⟩ dX9_count_121 (fun r18 M17 H locs hw hP hS => ?_)
                exact g_iret hx hb hr hlocks hw hP hS dX9_count_124
              · 
                by_cases c19 : a1 = (7 : Int32)
                · have hw := hw.2.2.2.2.2.2.2.1 c19
                  refine g_swK (tgt := 125) hx hb dX9_count_1 7 c19 (by decide) (by decide) rfl (by decide) ?_
                  refine lv_aload_n hx hb dX9_count_125 rfl (lv_at hl 0 rfl) ?_
                  refine g_get (v := .ref (ad 22 0)) hx hb hts hown hK hP (hLm.h (f := 21) (by decide)) (gC21 _ _ _ _) gcl9 iX9_count_X9 0 (by decide) mX9_count_1 rfl rfl dX9_count_126 ?_
                  refine lv_iconst (v := (2 : Int32)) hx hb dX9_count_129 (by decide) ?_
                  have hb20 := hw.1
                  have hw := hw.2
                  refine g_iald (n := 1730) hx hb hK hP (hLm.h (f := 22) (by decide)) rfl hb20 dX9_count_130 ?_
                  exact g_iret hx hb hr hlocks hw hP hS dX9_count_131
                · 
                  by_cases c21 : a1 = (8 : Int32)
                  · have hw := hw.2.2.2.2.2.2.2.2.1 c21
                    refine g_swK (tgt := 132) hx hb dX9_count_1 8 c21 (by decide) (by decide) rfl (by decide) ?_
                    refine lv_aload_n hx hb dX9_count_132 rfl (lv_at hl 0 rfl) ?_
                    refine g_get (v := .ref (ad 22 0)) hx hb hts hown hK hP (hLm.h (f := 21) (by decide)) (gC21 _ _ _ _) gcl9 iX9_count_X9 0 (by decide) mX9_count_1 rfl rfl dX9_count_133 ?_
                    refine lv_iconst (v := (3 : Int32)) hx hb dX9_count_136 (by decide) ?_
                    have hb22 := hw.1
                    have hw := hw.2
                    refine g_iald (n := 1730) hx hb hK hP (hLm.h (f := 22) (by decide)) rfl hb22 dX9_count_137 ?_
                    exact g_iret hx hb hr hlocks hw hP hS dX9_count_138
                  · 
                    by_cases c23 : a1 = (9 : Int32)
                    · have hw := hw.2.2.2.2.2.2.2.2.2.1 c23
                      refine g_swK (tgt := 139) hx hb dX9_count_1 9 c23 (by decide) (by decide) rfl (by decide) ?_
                      refine lv_aload_n hx hb dX9_count_139 rfl (lv_at hl 0 rfl) ?_
                      refine g_get (v := .ref (ad 22 0)) hx hb hts hown hK hP (hLm.h (f := 21) (by decide)) (gC21 _ _ _ _) gcl9 iX9_count_X9 0 (by decide) mX9_count_1 rfl rfl dX9_count_140 ?_
                      refine lv_iconst (v := (4 : Int32)) hx hb dX9_count_143 (by decide) ?_
                      have hb24 := hw.1
                      have hw := hw.2
                      refine g_iald (n := 1730) hx hb hK hP (hLm.h (f := 22) (by decide)) rfl hb24 dX9_count_144 ?_
                      exact g_iret hx hb hr hlocks hw hP hS dX9_count_145
                    · 
                      by_cases c25 : a1 = (10 : Int32)
                      · have hw := hw.2.2.2.2.2.2.2.2.2.2.1 c25
                        refine g_swK (tgt := 146) hx hb dX9_count_1 10 c25 (by decide) (by decide) rfl (by decide) ?_
                        refine lv_aload_n hx hb dX9_count_146 rfl (lv_at hl 0 rfl) ?_
                        refine g_get (v := .int (M0 21 0 4)) hx hb hts hown hK hP (hLm.h (f := 21) (by decide)) (gC21 _ _ _ _) gcl9 iX9_count_X9 4 (by decide) mX9_count_2 rfl rfl dX9_count_147 ?_
                        exact g_iret hx hb hr hlocks hw hP hS dX9_count_150
                      · 
                        by_cases c26 : a1 = (11 : Int32)
                        · have hw := hw.2.2.2.2.2.2.2.2.2.2.2.1 c26
                          refine g_swK (tgt := 151) hx hb dX9_count_1 11 c26 (by decide) (by decide) rfl (by decide) ?_
                          refine lv_aload_n hx hb dX9_count_151 rfl (lv_at hl 0 rfl) ?_
                          refine g_get (v := .int (M0 21 0 14)) hx hb hts hown hK hP (hLm.h (f := 21) (by decide)) (gC21 _ _ _ _) gcl9 iX9_count_X9 14 (by decide) mX9_count_3 rfl rfl dX9_count_152 ?_
                          exact g_iret hx hb hr hlocks hw hP hS dX9_count_155
                        · have hw := hw.2.2.2.2.2.2.2.2.2.2.2.2 c1 c3 c5 c7 c10 c13 c16 c19 c21 c23 c25 c26
                          refine lv_tableOut (tgt := 156) hx hb dX9_count_1 (by have z0 := g_ne (i := 0) (by decide) c1; have z1 := g_ne (i := 1) (by decide) c3; have z2 := g_ne (i := 2) (by decide) c5; have z3 := g_ne (i := 3) (by decide) c7; have z4 := g_ne (i := 4) (by decide) c10; have z5 := g_ne (i := 5) (by decide) c13; have z6 := g_ne (i := 6) (by decide) c16; have z7 := g_ne (i := 7) (by decide) c19; have z8 := g_ne (i := 8) (by decide) c21; have z9 := g_ne (i := 9) (by decide) c23; have z10 := g_ne (i := 10) (by decide) c25; have z11 := g_ne (i := 11) (by decide) c26; omega) (by decide) ?_
                          refine lv_bipush (v := (-2 : Int32)) hx hb dX9_count_156 (by decide) ?_
                          exact g_iret hx hb hr hlocks hw hP hS dX9_count_158
