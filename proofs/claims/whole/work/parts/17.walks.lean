/-! ===== LAYER 1: contracts, walked (printed by wip/whole/gen.py) ===== -/
abbrev rmX9_faultOfWords : Room := { frames := 2, cells := 0, slots := 0, locals := 46 }
theorem eX9_faultOfWords : yX9_faultOfWords.cls = RX9 ∧ yX9_faultOfWords.cls ≠ "java/lang/invoke/MethodHandle" ∧ yX9_faultOfWords.cls ≠ "java/lang/invoke/VarHandle" ∧ (parseMethodDescriptor yX9_faultOfWords.desc).map (fun d => d.parameters.length) = some 0 := by decide +kernel
theorem iX9_faultOfWords_X9 : ∀ w ∈ wsX90, w ∈ wsX9_faultOfWords := fun _ h => List.mem_cons_of_mem _ (List.mem_append_right _ (h))
theorem mX9_faultOfWords_1 : Cond.fieldLink RX9 113 "PracticeSheetsModel" "textLong" "I" ∈ wsX9_faultOfWords := List.mem_of_getElem? (i := 1) rfl
theorem mX9_faultOfWords_2 : Cond.fieldLink RX9 37 "PracticeSheetsModel" "text" "[I" ∈ wsX9_faultOfWords := List.mem_of_getElem? (i := 2) rfl
set_option maxHeartbeats 4000000 in
set_option maxRecDepth 100000 in
theorem qX9_faultOfWords (l : Launch) (D : va_G) (E : Nat → ClassId) (ad : Nat → Nat → Nat) (L : List (Nat × Nat)) (A : Nat → Prop) (hF : gF E ad L A) (hLm : gLm L) (M0 : gW)  (K : Int32 → gW → Prop) (hw : wX9_faultOfWords M0 K) : Met l yX9_faultOfWords wsX9_faultOfWords rmX9_faultOfWords (va_Pc [.ref (ad 21 0)] (gPre D E ad L M0)) (gQi D E ad L A K) 0 0 A := by
  refine Met.ofW (cc := cX9_faultOfWords) (maxL := 4) (ret := (some .int)) (by decide) rfl ?_
  intro p e s m args below meth c s₁ B hml hv
  obtain ⟨rfl, hP, hK, hN⟩ := hv
  have hx := B.exec
  have hb := B.bytes
  have hr := B.returns
  have hts := atoms_spec (ws := wsX9_faultOfWords) B.pre
  have hown : s.vm.findClass RX9 = some m.cls := findClass_of_methodNamed B.named
  have hlocks := B.notSynchronized
  have S : CallFix p m c cX9_faultOfWords 4 s ([.ref (ad 21 0)] : List Value).toArray wsX9_faultOfWords RX9 := ⟨hx, hb, hml, hown, hts⟩
  have hS : va_S A s.heap s.heap [] := va_S.rf
  have hl := lv_entry ([.ref (ad 21 0)]) (n := 4) (Nat.le_of_ble_eq_true rfl)
  rw [lg_entry_eq]
  generalize (lg_sl ([.ref (ad 21 0)]) ++ List.replicate (4 - (lg_sl ([.ref (ad 21 0)])).length) Slot.unset).toArray = ls at hl ⊢
  have hl : lv_has ls 4 [(0, .ref (ad 21 0))] := hl
  refine lv_iconst (v := (0 : Int32)) hx hb dX9_faultOfWords_0 (by decide) ?_
  refine lv_istore_n (lv' := [(1, .int (0 : Int32)), (0, .ref (ad 21 0))]) hx hb dX9_faultOfWords_1 rfl hl (by decide) rfl (fun ls hl => ?_)
  refine lv_iconst (v := (0 : Int32)) hx hb dX9_faultOfWords_2 (by decide) ?_
  refine lv_istore_n (lv' := [(2, .int (0 : Int32)), (1, .int (0 : Int32)), (0, .ref (ad 21 0))]) hx hb dX9_faultOfWords_3 rfl hl (by decide) rfl (fun ls hl => ?_)
  obtain ⟨n20, hw⟩ := hw
  have hxX9_faultOfWords_L4_0 : ∀ (M16 : gW) (x1_17 : Int32) (x2_18 : Int32) (H : Heap) (locs : List Loc) (ls : Array Slot), ((x1_17 = 0 → (K (M16 21 0 14) M16)) ∧ (¬ (x1_17 = 0) → (K (-5 : Int32) M16))) → va_P D vwCl (gL E ad L M16) H → va_S A s.heap H locs → lv_has ls 4 [(0, .ref (ad 21 0)), (1, .int x1_17), (2, .int x2_18)] → W p l e (headSpec wsX9_faultOfWords rmX9_faultOfWords).room s m (([.ref (ad 21 0)] : List Value).toArray) below meth c H locs 0 0 (MQ below (gQi D E ad L A K) ([.ref (ad 21 0)] : List Value).toArray s 0 0 A) (F0 m 71 ls []) := by
    intro M16 x1_17 x2_18 H locs ls hw hP hS hl
    refine lv_iload_n hx hb dX9_faultOfWords_71 rfl (lv_at hl 1 rfl) ?_
    refine lv_if_ne (tgt := 82) hx hb dX9_faultOfWords_72 (by decide) (fun c19 => ?_) (fun c19 => ?_)
    · have hw := hw.2 c19
      refine lv_bipush (v := (-5 : Int32)) hx hb dX9_faultOfWords_82 (by decide) ?_
      exact g_iret hx hb hr hlocks hw hP hS dX9_faultOfWords_84
    · have hw := hw.1 c19
      refine lv_aload_n hx hb dX9_faultOfWords_75 rfl (lv_at hl 0 rfl) ?_
      refine g_get (v := .int (M16 21 0 14)) hx hb hts hown hK hP (hLm.h (f := 21) (by decide)) (gC21 _ _ _ _) gcl9 iX9_faultOfWords_X9 14 (by decide) mX9_faultOfWords_1 rfl rfl dX9_faultOfWords_76 ?_
      refine lv_goto (tgt := 84) hx hb dX9_faultOfWords_79 (by decide) ?_
      exact g_iret hx hb hr hlocks hw hP hS dX9_faultOfWords_84
  have hlX9_faultOfWords_L4 : ∀ (n1 : Nat) (M2 : gW) (x1_3 : Int32) (x2_4 : Int32) (H : Heap) (locs : List Loc) (ls : Array Slot), wX9_faultOfWords_L4 K (fun M16 x1_17 x2_18 => ((x1_17 = 0 → (K (M16 21 0 14) M16)) ∧ (¬ (x1_17 = 0) → (K (-5 : Int32) M16)))) n1 M2 x1_3 x2_4 → va_P D vwCl (gL E ad L M2) H → va_S A s.heap H locs → lv_has ls 4 [(0, .ref (ad 21 0)), (1, .int x1_3), (2, .int x2_4)] → W p l e (headSpec wsX9_faultOfWords rmX9_faultOfWords).room s m (([.ref (ad 21 0)] : List Value).toArray) below meth c H locs 0 0 (MQ below (gQi D E ad L A K) ([.ref (ad 21 0)] : List Value).toArray s 0 0 A) (F0 m 4 ls []) := by
    intro n1
    induction n1 with
    | zero => intro M2 x1_3 x2_4 H locs ls hw; exact False.elim hw
    | succ n1 ihn1 =>
      intro M2 x1_3 x2_4 H locs ls hw hP hS hl
      refine lv_iload_n hx hb dX9_faultOfWords_4 rfl (lv_at hl 2 rfl) ?_
      refine lv_aload_n hx hb dX9_faultOfWords_5 rfl (lv_at hl 0 rfl) ?_
      refine g_get (v := .int (M2 21 0 14)) hx hb hts hown hK hP (hLm.h (f := 21) (by decide)) (gC21 _ _ _ _) gcl9 iX9_faultOfWords_X9 14 (by decide) mX9_faultOfWords_1 rfl rfl dX9_faultOfWords_6 ?_
      refine lv_icmp_ge (tgt := 71) hx hb dX9_faultOfWords_9 (by decide) (fun c5 => ?_) (fun c5 => ?_)
      · have hw := hw.1 c5
        exact hxX9_faultOfWords_L4_0 _ _ _ _ _ _ hw hP hS (lv_sub hl [0, 1, 2] rfl)
      · have hw := hw.2 c5
        refine lv_aload_n hx hb dX9_faultOfWords_12 rfl (lv_at hl 0 rfl) ?_
        refine lv_iload_n hx hb dX9_faultOfWords_13 rfl (lv_at hl 2 rfl) ?_
        refine g_Vi (As := [.int x2_4]) (rest := []) S hK hN hP hS (qX9_isLetter l D E ad L A hF hLm M2 x2_4  _ hw) (cwV 1 hts gX9_faultOfWords_X9_isLetter rfl rfl rfl eX9_isLetter ⟨Nat.le_of_ble_eq_true rfl, Nat.le_of_ble_eq_true rfl⟩) (hLm.h (f := 21) (by decide)) (gC21 _ _ _ _) gcl9 rfl rfl rfl hl.1 (Nat.le_of_ble_eq_true rfl) ⟨Nat.zero_le _, Nat.zero_le _⟩ dX9_faultOfWords_14 (fun r7 M6 H locs hw hP hS => ?_)
        refine lv_if_eq (tgt := 30) hx hb dX9_faultOfWords_17 (by decide) (fun c8 => ?_) (fun c8 => ?_)
        · have hw := hw.1 c8
          refine lv_iconst (v := (0 : Int32)) hx hb dX9_faultOfWords_30 (by decide) ?_
          refine lv_istore_n (lv' := [(3, .int (0 : Int32)), (0, .ref (ad 21 0)), (1, .int x1_3), (2, .int x2_4)]) hx hb dX9_faultOfWords_31 rfl hl (by decide) rfl (fun ls hl => ?_)
          refine lv_iload_n hx hb dX9_faultOfWords_32 rfl (lv_at hl 0 rfl) ?_
          refine lv_if_ne (tgt := 53) hx hb dX9_faultOfWords_33 (by decide) (fun c => absurd (by decide) c) (fun _ => ?_)
          refine lv_aload_n hx hb dX9_faultOfWords_36 rfl (lv_at hl 1 rfl) ?_
          refine g_get (v := .ref (ad 22 9)) hx hb hts hown hK hP (hLm.h (f := 21) (by decide)) (gC21 _ _ _ _) gcl9 iX9_faultOfWords_X9 13 (by decide) mX9_faultOfWords_2 rfl rfl dX9_faultOfWords_37 ?_
          refine lv_iload_n hx hb dX9_faultOfWords_40 rfl (lv_at hl 3 rfl) ?_
          have hb9 := hw.1
          have hw := hw.2
          refine g_iald (n := 60) hx hb hK hP (hLm.h (f := 22) (by decide)) rfl hb9 dX9_faultOfWords_41 ?_
          refine lv_bipush (v := (44 : Int32)) hx hb dX9_faultOfWords_42 (by decide) ?_
          refine lv_icmp_ne (tgt := 51) hx hb dX9_faultOfWords_44 (by decide) (fun c10 => ?_) (fun c10 => ?_)
          · have hw := hw.2 c10
            refine lv_iload_n hx hb dX9_faultOfWords_51 rfl (lv_at hl 3 rfl) ?_
            exact g_iret hx hb hr hlocks hw hP hS dX9_faultOfWords_52
          · have hw := hw.1 c10
            refine lv_iload_n hx hb dX9_faultOfWords_47 rfl (lv_at hl 2 rfl) ?_
            refine lv_if_ne (tgt := 53) hx hb dX9_faultOfWords_48 (by decide) (fun c11 => ?_) (fun c11 => ?_)
            · have hw := hw.2 c11
              refine lv_iload_n hx hb dX9_faultOfWords_53 rfl (lv_at hl 0 rfl) ?_
              refine lv_if_eq (tgt := 63) hx hb dX9_faultOfWords_54 (by decide) (fun _ => ?_) (fun c => absurd (by decide) c)
              refine lv_iconst (v := (0 : Int32)) hx hb dX9_faultOfWords_63 (by decide) ?_
              refine lv_istore_n (lv' := [(1, .int (0 : Int32)), (3, .int (0 : Int32)), (0, .ref (ad 21 0)), (2, .int x2_4)]) hx hb dX9_faultOfWords_64 rfl hl (by decide) rfl (fun ls hl => ?_)
              refine lv_iinc (v := (x2_4 + (1 : Int32))) (lv' := [(2, .int (x2_4 + (1 : Int32))), (1, .int (0 : Int32)), (3, .int (0 : Int32)), (0, .ref (ad 21 0))]) hx hb dX9_faultOfWords_65 hl (k := 3) rfl rfl (by decide) rfl (fun ls hl => ?_)
              refine lv_goto (tgt := 4) hx hb dX9_faultOfWords_68 (by decide) ?_
              exact ihn1 _ _ _ _ _ _ hw hP hS (lv_sub hl [3, 1, 0] rfl)
            · have hw := hw.1 c11
              refine lv_iload_n hx hb dX9_faultOfWords_51 rfl (lv_at hl 3 rfl) ?_
              exact g_iret hx hb hr hlocks hw hP hS dX9_faultOfWords_52
        · have hw := hw.2 c8
          refine lv_iload_n hx hb dX9_faultOfWords_20 rfl (lv_at hl 1 rfl) ?_
          refine lv_bipush (v := (15 : Int32)) hx hb dX9_faultOfWords_21 (by decide) ?_
          refine lv_icmp_ge (tgt := 30) hx hb dX9_faultOfWords_23 (by decide) (fun c12 => ?_) (fun c12 => ?_)
          · have hw := hw.1 c12
            refine lv_iconst (v := (0 : Int32)) hx hb dX9_faultOfWords_30 (by decide) ?_
            refine lv_istore_n (lv' := [(3, .int (0 : Int32)), (0, .ref (ad 21 0)), (1, .int x1_3), (2, .int x2_4)]) hx hb dX9_faultOfWords_31 rfl hl (by decide) rfl (fun ls hl => ?_)
            refine lv_iload_n hx hb dX9_faultOfWords_32 rfl (lv_at hl 0 rfl) ?_
            refine lv_if_ne (tgt := 53) hx hb dX9_faultOfWords_33 (by decide) (fun c => absurd (by decide) c) (fun _ => ?_)
            refine lv_aload_n hx hb dX9_faultOfWords_36 rfl (lv_at hl 1 rfl) ?_
            refine g_get (v := .ref (ad 22 9)) hx hb hts hown hK hP (hLm.h (f := 21) (by decide)) (gC21 _ _ _ _) gcl9 iX9_faultOfWords_X9 13 (by decide) mX9_faultOfWords_2 rfl rfl dX9_faultOfWords_37 ?_
            refine lv_iload_n hx hb dX9_faultOfWords_40 rfl (lv_at hl 3 rfl) ?_
            have hb13 := hw.1
            have hw := hw.2
            refine g_iald (n := 60) hx hb hK hP (hLm.h (f := 22) (by decide)) rfl hb13 dX9_faultOfWords_41 ?_
            refine lv_bipush (v := (44 : Int32)) hx hb dX9_faultOfWords_42 (by decide) ?_
            refine lv_icmp_ne (tgt := 51) hx hb dX9_faultOfWords_44 (by decide) (fun c14 => ?_) (fun c14 => ?_)
            · have hw := hw.2 c14
              refine lv_iload_n hx hb dX9_faultOfWords_51 rfl (lv_at hl 3 rfl) ?_
              exact g_iret hx hb hr hlocks hw hP hS dX9_faultOfWords_52
            · have hw := hw.1 c14
              refine lv_iload_n hx hb dX9_faultOfWords_47 rfl (lv_at hl 2 rfl) ?_
              refine lv_if_ne (tgt := 53) hx hb dX9_faultOfWords_48 (by decide) (fun c15 => ?_) (fun c15 => ?_)
              · have hw := hw.2 c15
                refine lv_iload_n hx hb dX9_faultOfWords_53 rfl (lv_at hl 0 rfl) ?_
                refine lv_if_eq (tgt := 63) hx hb dX9_faultOfWords_54 (by decide) (fun _ => ?_) (fun c => absurd (by decide) c)
                refine lv_iconst (v := (0 : Int32)) hx hb dX9_faultOfWords_63 (by decide) ?_
                refine lv_istore_n (lv' := [(1, .int (0 : Int32)), (3, .int (0 : Int32)), (0, .ref (ad 21 0)), (2, .int x2_4)]) hx hb dX9_faultOfWords_64 rfl hl (by decide) rfl (fun ls hl => ?_)
                refine lv_iinc (v := (x2_4 + (1 : Int32))) (lv' := [(2, .int (x2_4 + (1 : Int32))), (1, .int (0 : Int32)), (3, .int (0 : Int32)), (0, .ref (ad 21 0))]) hx hb dX9_faultOfWords_65 hl (k := 3) rfl rfl (by decide) rfl (fun ls hl => ?_)
                refine lv_goto (tgt := 4) hx hb dX9_faultOfWords_68 (by decide) ?_
                exact ihn1 _ _ _ _ _ _ hw hP hS (lv_sub hl [3, 1, 0] rfl)
              · have hw := hw.1 c15
                refine lv_iload_n hx hb dX9_faultOfWords_51 rfl (lv_at hl 3 rfl) ?_
                exact g_iret hx hb hr hlocks hw hP hS dX9_faultOfWords_52
          · have hw := hw.2 c12
            refine lv_iconst (v := (1 : Int32)) hx hb dX9_faultOfWords_26 (by decide) ?_
            refine lv_goto (tgt := 31) hx hb dX9_faultOfWords_27 (by decide) ?_
            refine lv_istore_n (lv' := [(3, .int (1 : Int32)), (0, .ref (ad 21 0)), (1, .int x1_3), (2, .int x2_4)]) hx hb dX9_faultOfWords_31 rfl hl (by decide) rfl (fun ls hl => ?_)
            refine lv_iload_n hx hb dX9_faultOfWords_32 rfl (lv_at hl 0 rfl) ?_
            refine lv_if_ne (tgt := 53) hx hb dX9_faultOfWords_33 (by decide) (fun _ => ?_) (fun c => absurd c (by decide))
            refine lv_iload_n hx hb dX9_faultOfWords_53 rfl (lv_at hl 0 rfl) ?_
            refine lv_if_eq (tgt := 63) hx hb dX9_faultOfWords_54 (by decide) (fun c => absurd c (by decide)) (fun _ => ?_)
            refine lv_iload_n hx hb dX9_faultOfWords_57 rfl (lv_at hl 2 rfl) ?_
            refine lv_iconst (v := (1 : Int32)) hx hb dX9_faultOfWords_58 (by decide) ?_
            refine lv_iadd hx hb dX9_faultOfWords_59 ?_
            refine lv_goto (tgt := 64) hx hb dX9_faultOfWords_60 (by decide) ?_
            refine lv_istore_n (lv' := [(1, .int (x1_3 + (1 : Int32))), (3, .int (1 : Int32)), (0, .ref (ad 21 0)), (2, .int x2_4)]) hx hb dX9_faultOfWords_64 rfl hl (by decide) rfl (fun ls hl => ?_)
            refine lv_iinc (v := (x2_4 + (1 : Int32))) (lv' := [(2, .int (x2_4 + (1 : Int32))), (1, .int (x1_3 + (1 : Int32))), (3, .int (1 : Int32)), (0, .ref (ad 21 0))]) hx hb dX9_faultOfWords_65 hl (k := 3) rfl rfl (by decide) rfl (fun ls hl => ?_)
            refine lv_goto (tgt := 4) hx hb dX9_faultOfWords_68 (by decide) ?_
            exact ihn1 _ _ _ _ _ _ hw hP hS (lv_sub hl [3, 1, 0] rfl)
  exact hlX9_faultOfWords_L4 n20 _ _ _ _ _ _ hw hP hS (lv_sub hl [2, 1, 0] rfl)
abbrev rmX9_write : Room := { frames := 3, cells := 0, slots := 0, locals := 69 }
theorem eX9_write : yX9_write.cls = RX9 ∧ yX9_write.cls ≠ "java/lang/invoke/MethodHandle" ∧ yX9_write.cls ≠ "java/lang/invoke/VarHandle" ∧ (parseMethodDescriptor yX9_write.desc).map (fun d => d.parameters.length) = some 0 := by decide +kernel
theorem iX9_write_X9 : ∀ w ∈ wsX90, w ∈ wsX9_write := fun _ h => List.mem_cons_of_mem _ (List.mem_append_right _ (h))
theorem mX9_write_1 : Cond.fieldLink RX9 120 "PracticeSheetsModel" "readLong" "I" ∈ wsX9_write := List.mem_of_getElem? (i := 1) rfl
theorem mX9_write_2 : Cond.fieldLink RX9 40 "PracticeSheetsModel" "read" "[I" ∈ wsX9_write := List.mem_of_getElem? (i := 2) rfl
theorem mX9_write_3 : Cond.fieldLink RX9 43 "PracticeSheetsModel" "isMarked" "[I" ∈ wsX9_write := List.mem_of_getElem? (i := 3) rfl
theorem mX9_write_4 : Cond.fieldLink RX9 46 "PracticeSheetsModel" "isJoinMarked" "[I" ∈ wsX9_write := List.mem_of_getElem? (i := 4) rfl
theorem mX9_write_5 : Cond.fieldLink RX9 7 "PracticeSheetsModel" "all" "[I" ∈ wsX9_write := List.mem_of_getElem? (i := 5) rfl
set_option maxHeartbeats 4000000 in
set_option maxRecDepth 100000 in
theorem qX9_write (l : Launch) (D : va_G) (E : Nat → ClassId) (ad : Nat → Nat → Nat) (L : List (Nat × Nat)) (A : Nat → Prop) (hF : gF E ad L A) (hLm : gLm L) (M0 : gW)  (K : Int32 → gW → Prop) (hw : wX9_write M0 K) : Met l yX9_write wsX9_write rmX9_write (va_Pc [.ref (ad 21 0)] (gPre D E ad L M0)) (gQi D E ad L A K) 0 0 A := by
  refine Met.ofW (cc := cX9_write) (maxL := 4) (ret := (some .int)) (by decide) rfl ?_
  intro p e s m args below meth c s₁ B hml hv
  obtain ⟨rfl, hP, hK, hN⟩ := hv
  have hx := B.exec
  have hb := B.bytes
  have hr := B.returns
  have hts := atoms_spec (ws := wsX9_write) B.pre
  have hown : s.vm.findClass RX9 = some m.cls := findClass_of_methodNamed B.named
  have hlocks := B.notSynchronized
  have S : CallFix p m c cX9_write 4 s ([.ref (ad 21 0)] : List Value).toArray wsX9_write RX9 := ⟨hx, hb, hml, hown, hts⟩
  have hS : va_S A s.heap s.heap [] := va_S.rf
  have hl := lv_entry ([.ref (ad 21 0)]) (n := 4) (Nat.le_of_ble_eq_true rfl)
  rw [lg_entry_eq]
  generalize (lg_sl ([.ref (ad 21 0)]) ++ List.replicate (4 - (lg_sl ([.ref (ad 21 0)])).length) Slot.unset).toArray = ls at hl ⊢
  have hl : lv_has ls 4 [(0, .ref (ad 21 0))] := hl
  refine lv_aload_n hx hb dX9_write_0 rfl (lv_at hl 0 rfl) ?_
  refine g_Vi (As := []) (rest := []) S hK hN hP hS (qX9_faultOfWriting l D E ad L A hF hLm M0  _ hw) (cwV 0 hts gX9_write_X9_faultOfWriting rfl rfl rfl eX9_faultOfWriting ⟨Nat.le_of_ble_eq_true rfl, Nat.le_of_ble_eq_true rfl⟩) (hLm.h (f := 21) (by decide)) (gC21 _ _ _ _) gcl9 rfl rfl rfl hl.1 (Nat.le_of_ble_eq_true rfl) ⟨Nat.zero_le _, Nat.zero_le _⟩ dX9_write_1 (fun r2 M1 H locs hw hP hS => ?_)
  refine lv_istore_n (lv' := [(1, .int r2), (0, .ref (ad 21 0))]) hx hb dX9_write_4 rfl hl (by decide) rfl (fun ls hl => ?_)
  refine lv_iload_n hx hb dX9_write_5 rfl (lv_at hl 0 rfl) ?_
  refine lv_bipush (v := (-5 : Int32)) hx hb dX9_write_6 (by decide) ?_
  refine lv_icmp_eq (tgt := 16) hx hb dX9_write_8 (by decide) (fun c3 => ?_) (fun c3 => ?_)
  · have hw := hw.1 c3
    refine lv_aload_n hx hb dX9_write_16 rfl (lv_at hl 1 rfl) ?_
    refine g_Vv (As := []) (rest := []) S hK hN hP hS (qX9_remember l D E ad L A hF hLm M1  _ hw) (cwV 0 hts gX9_write_X9_remember rfl rfl rfl eX9_remember ⟨Nat.le_of_ble_eq_true rfl, Nat.le_of_ble_eq_true rfl⟩) (hLm.h (f := 21) (by decide)) (gC21 _ _ _ _) gcl9 rfl rfl rfl hl.1 (Nat.le_of_ble_eq_true rfl) ⟨Nat.zero_le _, Nat.zero_le _⟩ dX9_write_17 (fun M4 H locs hw hP hS => ?_)
    refine lv_iconst (v := (0 : Int32)) hx hb dX9_write_20 (by decide) ?_
    refine lv_istore_n (lv' := [(2, .int (0 : Int32)), (1, .int r2), (0, .ref (ad 21 0))]) hx hb dX9_write_21 rfl hl (by decide) rfl (fun ls hl => ?_)
    refine lv_iconst (v := (0 : Int32)) hx hb dX9_write_22 (by decide) ?_
    refine lv_istore_n (lv' := [(3, .int (0 : Int32)), (2, .int (0 : Int32)), (1, .int r2), (0, .ref (ad 21 0))]) hx hb dX9_write_23 rfl hl (by decide) rfl (fun ls hl => ?_)
    obtain ⟨n37, hw⟩ := hw
    have hxX9_write_L24_0 : ∀ (M24 : gW) (x2_25 : Int32) (x3_26 : Int32) (H : Heap) (locs : List Loc) (ls : Array Slot), ((vp_in (2 : Int32) 1730) ∧ ((vp_in (2 : Int32) 1730) ∧ (∀ M29 : gW, M29 = gU M24 22 0 (upd (M24 22 0) (2 : Int32).toNatClampNeg ((M24 22 0 (2 : Int32).toNatClampNeg) + (1 : Int32))) → ((vp_in (3 : Int32) 1730) ∧ ((vp_in (3 : Int32) 1730) ∧ (∀ M33 : gW, M33 = gU M29 22 0 (upd (M29 22 0) (3 : Int32).toNatClampNeg ((M29 22 0 (3 : Int32).toNatClampNeg) + x2_25)) → (wX9_acted M33 x2_25 (fun r36 M35 => (K r36 M35))))))))) → va_P D vwCl (gL E ad L M24) H → va_S A s.heap H locs → lv_has ls 4 [(0, .ref (ad 21 0)), (1, .int r2), (2, .int x2_25), (3, .int x3_26)] → W p l e (headSpec wsX9_write rmX9_write).room s m (([.ref (ad 21 0)] : List Value).toArray) below meth c H locs 0 0 (MQ below (gQi D E ad L A K) ([.ref (ad 21 0)] : List Value).toArray s 0 0 A) (F0 m 109 ls []) := by
      intro M24 x2_25 x3_26 H locs ls hw hP hS hl
      refine lv_aload_n hx hb dX9_write_109 rfl (lv_at hl 0 rfl) ?_
      refine g_get (v := .ref (ad 22 0)) hx hb hts hown hK hP (hLm.h (f := 21) (by decide)) (gC21 _ _ _ _) gcl9 iX9_write_X9 0 (by decide) mX9_write_5 rfl rfl dX9_write_110 ?_
      refine lv_iconst (v := (2 : Int32)) hx hb dX9_write_113 (by decide) ?_
      refine lv_dup2_11 hx hb dX9_write_114 rfl rfl ?_
      have hb27 := hw.1
      have hw := hw.2
      refine g_iald (n := 1730) hx hb hK hP (hLm.h (f := 22) (by decide)) rfl hb27 dX9_write_115 ?_
      refine lv_iconst (v := (1 : Int32)) hx hb dX9_write_116 (by decide) ?_
      refine lv_iadd hx hb dX9_write_117 ?_
      have hb28 := hw.1
      have hw := hw.2
      refine g_iast (n := 1730) hx hb hF hK hP hS (hLm.h (f := 22) (by decide)) (fun _ => rfl) hb28 dX9_write_118 (fun M29 e30 H locs hP hS => ?_)
      have hw := hw M29 e30
      refine lv_aload_n hx hb dX9_write_119 rfl (lv_at hl 0 rfl) ?_
      refine g_get (v := .ref (ad 22 0)) hx hb hts hown hK hP (hLm.h (f := 21) (by decide)) (gC21 _ _ _ _) gcl9 iX9_write_X9 0 (by decide) mX9_write_5 rfl rfl dX9_write_120 ?_
      refine lv_iconst (v := (3 : Int32)) hx hb dX9_write_123 (by decide) ?_
      refine lv_dup2_11 hx hb dX9_write_124 rfl rfl ?_
      have hb31 := hw.1
      have hw := hw.2
      refine g_iald (n := 1730) hx hb hK hP (hLm.h (f := 22) (by decide)) rfl hb31 dX9_write_125 ?_
      refine lv_iload_n hx hb dX9_write_126 rfl (lv_at hl 2 rfl) ?_
      refine lv_iadd hx hb dX9_write_127 ?_
      have hb32 := hw.1
      have hw := hw.2
      refine g_iast (n := 1730) hx hb hF hK hP hS (hLm.h (f := 22) (by decide)) (fun _ => rfl) hb32 dX9_write_128 (fun M33 e34 H locs hP hS => ?_)
      have hw := hw M33 e34
      refine lv_aload_n hx hb dX9_write_129 rfl (lv_at hl 0 rfl) ?_
      refine lv_iload_n hx hb dX9_write_130 rfl (lv_at hl 2 rfl) ?_
      refine g_Vi (As := [.int x2_25]) (rest := []) S hK hN hP hS (qX9_acted l D E ad L A hF hLm M33 x2_25  _ hw) (cwV 1 hts gX9_write_X9_acted rfl rfl rfl eX9_acted ⟨Nat.le_of_ble_eq_true rfl, Nat.le_of_ble_eq_true rfl⟩) (hLm.h (f := 21) (by decide)) (gC21 _ _ _ _) gcl9 rfl rfl rfl hl.1 (Nat.le_of_ble_eq_true rfl) ⟨Nat.zero_le _, Nat.zero_le _⟩ dX9_write_131 (fun r36 M35 H locs hw hP hS => ?_)
      exact g_iret hx hb hr hlocks hw hP hS dX9_write_134
    have hlX9_write_L24 : ∀ (n5 : Nat) (M6 : gW) (x2_7 : Int32) (x3_8 : Int32) (H : Heap) (locs : List Loc) (ls : Array Slot), wX9_write_L24 (fun M24 x2_25 x3_26 => ((vp_in (2 : Int32) 1730) ∧ ((vp_in (2 : Int32) 1730) ∧ (∀ M29 : gW, M29 = gU M24 22 0 (upd (M24 22 0) (2 : Int32).toNatClampNeg ((M24 22 0 (2 : Int32).toNatClampNeg) + (1 : Int32))) → ((vp_in (3 : Int32) 1730) ∧ ((vp_in (3 : Int32) 1730) ∧ (∀ M33 : gW, M33 = gU M29 22 0 (upd (M29 22 0) (3 : Int32).toNatClampNeg ((M29 22 0 (3 : Int32).toNatClampNeg) + x2_25)) → (wX9_acted M33 x2_25 (fun r36 M35 => (K r36 M35)))))))))) n5 M6 x2_7 x3_8 → va_P D vwCl (gL E ad L M6) H → va_S A s.heap H locs → lv_has ls 4 [(0, .ref (ad 21 0)), (1, .int r2), (2, .int x2_7), (3, .int x3_8)] → W p l e (headSpec wsX9_write rmX9_write).room s m (([.ref (ad 21 0)] : List Value).toArray) below meth c H locs 0 0 (MQ below (gQi D E ad L A K) ([.ref (ad 21 0)] : List Value).toArray s 0 0 A) (F0 m 24 ls []) := by
      intro n5
      induction n5 with
      | zero => intro M6 x2_7 x3_8 H locs ls hw; exact False.elim hw
      | succ n5 ihn5 =>
        intro M6 x2_7 x3_8 H locs ls hw hP hS hl
        refine lv_iload_n hx hb dX9_write_24 rfl (lv_at hl 3 rfl) ?_
        refine lv_aload_n hx hb dX9_write_25 rfl (lv_at hl 0 rfl) ?_
        refine g_get (v := .int (M6 21 0 18)) hx hb hts hown hK hP (hLm.h (f := 21) (by decide)) (gC21 _ _ _ _) gcl9 iX9_write_X9 18 (by decide) mX9_write_1 rfl rfl dX9_write_26 ?_
        refine lv_icmp_ge (tgt := 109) hx hb dX9_write_29 (by decide) (fun c9 => ?_) (fun c9 => ?_)
        · have hw := hw.1 c9
          exact hxX9_write_L24_0 _ _ _ _ _ _ hw hP hS (lv_sub hl [0, 1, 2, 3] rfl)
        · have hw := hw.2 c9
          refine lv_aload_n hx hb dX9_write_32 rfl (lv_at hl 0 rfl) ?_
          refine lv_aload_n hx hb dX9_write_33 rfl (lv_at hl 0 rfl) ?_
          refine g_get (v := .ref (ad 22 10)) hx hb hts hown hK hP (hLm.h (f := 21) (by decide)) (gC21 _ _ _ _) gcl9 iX9_write_X9 15 (by decide) mX9_write_2 rfl rfl dX9_write_34 ?_
          refine lv_iload_n hx hb dX9_write_37 rfl (lv_at hl 3 rfl) ?_
          have hb10 := hw.1
          have hw := hw.2
          refine g_iald (n := 15) hx hb hK hP (hLm.h (f := 22) (by decide)) rfl hb10 dX9_write_38 ?_
          refine lv_aload_n hx hb dX9_write_39 rfl (lv_at hl 0 rfl) ?_
          refine g_get (v := .ref (ad 22 11)) hx hb hts hown hK hP (hLm.h (f := 21) (by decide)) (gC21 _ _ _ _) gcl9 iX9_write_X9 16 (by decide) mX9_write_3 rfl rfl dX9_write_40 ?_
          refine lv_iload_n hx hb dX9_write_43 rfl (lv_at hl 3 rfl) ?_
          have hb11 := hw.1
          have hw := hw.2
          refine g_iald (n := 15) hx hb hK hP (hLm.h (f := 22) (by decide)) rfl hb11 dX9_write_44 ?_
          refine g_Vv (As := [.int (M6 22 10 x3_8.toNatClampNeg), .int (M6 22 11 x3_8.toNatClampNeg)]) (rest := []) S hK hN hP hS (qX9_tries l D E ad L A hF hLm M6 (M6 22 10 x3_8.toNatClampNeg) (M6 22 11 x3_8.toNatClampNeg)  _ hw) (cwV 2 hts gX9_write_X9_tries rfl rfl rfl eX9_tries ⟨Nat.le_of_ble_eq_true rfl, Nat.le_of_ble_eq_true rfl⟩) (hLm.h (f := 21) (by decide)) (gC21 _ _ _ _) gcl9 rfl rfl rfl hl.1 (Nat.le_of_ble_eq_true rfl) ⟨Nat.zero_le _, Nat.zero_le _⟩ dX9_write_45 (fun M12 H locs hw hP hS => ?_)
          refine lv_iload_n hx hb dX9_write_48 rfl (lv_at hl 2 rfl) ?_
          refine lv_aload_n hx hb dX9_write_49 rfl (lv_at hl 0 rfl) ?_
          refine g_get (v := .ref (ad 22 11)) hx hb hts hown hK hP (hLm.h (f := 21) (by decide)) (gC21 _ _ _ _) gcl9 iX9_write_X9 16 (by decide) mX9_write_3 rfl rfl dX9_write_50 ?_
          refine lv_iload_n hx hb dX9_write_53 rfl (lv_at hl 3 rfl) ?_
          have hb13 := hw.1
          have hw := hw.2
          refine g_iald (n := 15) hx hb hK hP (hLm.h (f := 22) (by decide)) rfl hb13 dX9_write_54 ?_
          refine lv_iadd hx hb dX9_write_55 ?_
          refine lv_istore_n (lv' := [(2, .int (x2_7 + (M12 22 11 x3_8.toNatClampNeg))), (0, .ref (ad 21 0)), (1, .int r2), (3, .int x3_8)]) hx hb dX9_write_56 rfl hl (by decide) rfl (fun ls hl => ?_)
          refine lv_iload_n hx hb dX9_write_57 rfl (lv_at hl 3 rfl) ?_
          refine lv_iconst (v := (1 : Int32)) hx hb dX9_write_58 (by decide) ?_
          refine lv_iadd hx hb dX9_write_59 ?_
          refine lv_aload_n hx hb dX9_write_60 rfl (lv_at hl 1 rfl) ?_
          refine g_get (v := .int (M12 21 0 18)) hx hb hts hown hK hP (hLm.h (f := 21) (by decide)) (gC21 _ _ _ _) gcl9 iX9_write_X9 18 (by decide) mX9_write_1 rfl rfl dX9_write_61 ?_
          refine lv_icmp_ge (tgt := 103) hx hb dX9_write_64 (by decide) (fun c14 => ?_) (fun c14 => ?_)
          · have hw := hw.1 c14
            refine lv_iinc (v := (x3_8 + (1 : Int32))) (lv' := [(3, .int (x3_8 + (1 : Int32))), (2, .int (x2_7 + (M12 22 11 x3_8.toNatClampNeg))), (0, .ref (ad 21 0)), (1, .int r2)]) hx hb dX9_write_103 hl (k := 3) rfl rfl (by decide) rfl (fun ls hl => ?_)
            refine lv_goto (tgt := 24) hx hb dX9_write_106 (by decide) ?_
            exact ihn5 _ _ _ _ _ _ hw hP hS (lv_sub hl [2, 3, 1, 0] rfl)
          · have hw := hw.2 c14
            refine lv_aload_n hx hb dX9_write_67 rfl (lv_at hl 1 rfl) ?_
            refine lv_aload_n hx hb dX9_write_68 rfl (lv_at hl 1 rfl) ?_
            refine g_get (v := .ref (ad 22 10)) hx hb hts hown hK hP (hLm.h (f := 21) (by decide)) (gC21 _ _ _ _) gcl9 iX9_write_X9 15 (by decide) mX9_write_2 rfl rfl dX9_write_69 ?_
            refine lv_iload_n hx hb dX9_write_72 rfl (lv_at hl 3 rfl) ?_
            have hb15 := hw.1
            have hw := hw.2
            refine g_iald (n := 15) hx hb hK hP (hLm.h (f := 22) (by decide)) rfl hb15 dX9_write_73 ?_
            refine lv_aload_n hx hb dX9_write_74 rfl (lv_at hl 1 rfl) ?_
            refine g_get (v := .ref (ad 22 10)) hx hb hts hown hK hP (hLm.h (f := 21) (by decide)) (gC21 _ _ _ _) gcl9 iX9_write_X9 15 (by decide) mX9_write_2 rfl rfl dX9_write_75 ?_
            refine lv_iload_n hx hb dX9_write_78 rfl (lv_at hl 3 rfl) ?_
            refine lv_iconst (v := (1 : Int32)) hx hb dX9_write_79 (by decide) ?_
            refine lv_iadd hx hb dX9_write_80 ?_
            have hb16 := hw.1
            have hw := hw.2
            refine g_iald (n := 15) hx hb hK hP (hLm.h (f := 22) (by decide)) rfl hb16 dX9_write_81 ?_
            refine g_Si (As := [.int (M12 22 10 x3_8.toNatClampNeg), .int (M12 22 10 (x3_8 + (1 : Int32)).toNatClampNeg)]) (rest := [.ref (ad 21 0)]) S hK hN hP hS (qX9_joinOf l D E ad L A hF hLm M12 (M12 22 10 x3_8.toNatClampNeg) (M12 22 10 (x3_8 + (1 : Int32)).toNatClampNeg)  _ hw) (va_cwS 2 hts gX9_write_X9_joinOf rfl rfl rfl eX9_joinOf.2 ⟨Nat.le_of_ble_eq_true rfl, Nat.le_of_ble_eq_true rfl⟩) rfl rfl hl.1 (Nat.le_of_ble_eq_true rfl) ⟨Nat.zero_le _, Nat.zero_le _⟩ dX9_write_82 (fun r18 M17 H locs hw hP hS => ?_)
            refine lv_aload_n hx hb dX9_write_85 rfl (lv_at hl 1 rfl) ?_
            refine g_get (v := .ref (ad 22 12)) hx hb hts hown hK hP (hLm.h (f := 21) (by decide)) (gC21 _ _ _ _) gcl9 iX9_write_X9 17 (by decide) mX9_write_4 rfl rfl dX9_write_86 ?_
            refine lv_iload_n hx hb dX9_write_89 rfl (lv_at hl 3 rfl) ?_
            have hb19 := hw.1
            have hw := hw.2
            refine g_iald (n := 15) hx hb hK hP (hLm.h (f := 22) (by decide)) rfl hb19 dX9_write_90 ?_
            refine g_Vv (As := [.int r18, .int (M17 22 12 x3_8.toNatClampNeg)]) (rest := []) S hK hN hP hS (qX9_tries l D E ad L A hF hLm M17 r18 (M17 22 12 x3_8.toNatClampNeg)  _ hw) (cwV 2 hts gX9_write_X9_tries rfl rfl rfl eX9_tries ⟨Nat.le_of_ble_eq_true rfl, Nat.le_of_ble_eq_true rfl⟩) (hLm.h (f := 21) (by decide)) (gC21 _ _ _ _) gcl9 rfl rfl rfl hl.1 (Nat.le_of_ble_eq_true rfl) ⟨Nat.zero_le _, Nat.zero_le _⟩ dX9_write_91 (fun M20 H locs hw hP hS => ?_)
            refine lv_iload_n hx hb dX9_write_94 rfl (lv_at hl 0 rfl) ?_
            refine lv_aload_n hx hb dX9_write_95 rfl (lv_at hl 1 rfl) ?_
            refine g_get (v := .ref (ad 22 12)) hx hb hts hown hK hP (hLm.h (f := 21) (by decide)) (gC21 _ _ _ _) gcl9 iX9_write_X9 17 (by decide) mX9_write_4 rfl rfl dX9_write_96 ?_
            refine lv_iload_n hx hb dX9_write_99 rfl (lv_at hl 3 rfl) ?_
            have hb21 := hw.1
            have hw := hw.2
            refine g_iald (n := 15) hx hb hK hP (hLm.h (f := 22) (by decide)) rfl hb21 dX9_write_100 ?_
            refine lv_iadd hx hb dX9_write_101 ?_
            refine lv_topi (fun y22 e23 => ?_)
            have hw := hw y22 e23
            refine lv_istore_n (lv' := [(2, .int y22), (0, .ref (ad 21 0)), (1, .int r2), (3, .int x3_8)]) hx hb dX9_write_102 rfl hl (by decide) rfl (fun ls hl => ?_)
            refine lv_iinc (v := (x3_8 + (1 : Int32))) (lv' := [(3, .int (x3_8 + (1 : Int32))), (2, .int y22), (0, .ref (ad 21 0)), (1, .int r2)]) hx hb dX9_write_103 hl (k := 3) rfl rfl (by decide) rfl (fun ls hl => ?_)
            refine lv_goto (tgt := 24) hx hb dX9_write_106 (by decide) ?_
            exact ihn5 _ _ _ _ _ _ hw hP hS (lv_sub hl [2, 3, 1, 0] rfl)
    exact hlX9_write_L24 n37 _ _ _ _ _ _ hw hP hS (lv_sub hl [3, 2, 1, 0] rfl)
  · have hw := hw.2 c3
    refine lv_bipush (v := (-100 : Int32)) hx hb dX9_write_11 (by decide) ?_
    refine lv_iload_n hx hb dX9_write_13 rfl (lv_at hl 0 rfl) ?_
    refine lv_isub hx hb dX9_write_14 ?_
    exact g_iret hx hb hr hlocks hw hP hS dX9_write_15
abbrev rmX9_pass : Room := { frames := 2, cells := 0, slots := 0, locals := 42 }
theorem eX9_pass : yX9_pass.cls = RX9 ∧ yX9_pass.cls ≠ "java/lang/invoke/MethodHandle" ∧ yX9_pass.cls ≠ "java/lang/invoke/VarHandle" ∧ (parseMethodDescriptor yX9_pass.desc).map (fun d => d.parameters.length) = some 1 := by decide +kernel
theorem mX9_pass_1 : Cond.constantLong RX9 138 (20) ∈ wsX9_pass := List.mem_of_getElem? (i := 1) rfl
theorem iX9_pass_X9 : ∀ w ∈ wsX90, w ∈ wsX9_pass := fun _ h => List.mem_cons_of_mem _ (List.mem_append_right _ (h))
theorem mX9_pass_2 : Cond.fieldLink RX9 7 "PracticeSheetsModel" "all" "[I" ∈ wsX9_pass := List.mem_of_getElem? (i := 2) rfl
theorem mX9_pass_3 : Cond.fieldLink RX9 13 "PracticeSheetsModel" "kept" "[I" ∈ wsX9_pass := List.mem_of_getElem? (i := 3) rfl
set_option maxHeartbeats 4000000 in
set_option maxRecDepth 100000 in
theorem qX9_pass (l : Launch) (D : va_G) (E : Nat → ClassId) (ad : Nat → Nat → Nat) (L : List (Nat × Nat)) (A : Nat → Prop) (hF : gF E ad L A) (hLm : gLm L) (M0 : gW) (a1 : Int32)  (K : Int32 → gW → Prop) (hw : wX9_pass M0 a1 K) : Met l yX9_pass wsX9_pass rmX9_pass (va_Pc [.ref (ad 21 0), .int a1] (gPre D E ad L M0)) (gQi D E ad L A K) 0 0 A := by
  refine Met.ofW (cc := cX9_pass) (maxL := 4) (ret := (some .int)) (by decide) rfl ?_
  intro p e s m args below meth c s₁ B hml hv
  obtain ⟨rfl, hP, hK, hN⟩ := hv
  have hx := B.exec
  have hb := B.bytes
  have hr := B.returns
  have hts := atoms_spec (ws := wsX9_pass) B.pre
  have hown : s.vm.findClass RX9 = some m.cls := findClass_of_methodNamed B.named
  have hlocks := B.notSynchronized
  have S : CallFix p m c cX9_pass 4 s ([.ref (ad 21 0), .int a1] : List Value).toArray wsX9_pass RX9 := ⟨hx, hb, hml, hown, hts⟩
  have hS : va_S A s.heap s.heap [] := va_S.rf
  have hl := lv_entry ([.ref (ad 21 0), .int a1]) (n := 4) (Nat.le_of_ble_eq_true rfl)
  rw [lg_entry_eq]
  generalize (lg_sl ([.ref (ad 21 0), .int a1]) ++ List.replicate (4 - (lg_sl ([.ref (ad 21 0), .int a1])).length) Slot.unset).toArray = ls at hl ⊢
  have hl : lv_has ls 4 [(0, .ref (ad 21 0)), (1, .int a1)] := hl
  refine lv_iload_n hx hb dX9_pass_0 rfl (lv_at hl 1 rfl) ?_
  refine lv_i2l (v := a1.toInt64) hx hb dX9_pass_1 rfl ?_
  refine lv_lconst (v := (1 : Int64)) hx hb dX9_pass_2 (by decide) ?_
  refine lv_ldc2 (v := (20 : Int64)) hx hb hown (hts _ mX9_pass_1) dX9_pass_3 ?_
  refine g_Si (As := [.long (a1.toInt64), .long (1 : Int64), .long (20 : Int64)]) (rest := []) S hK hN hP hS (qX9_in l D E ad L A hF hLm M0 (a1.toInt64) (1 : Int64) (20 : Int64)  _ hw) (va_cwS 3 hts gX9_pass_X9_in rfl rfl rfl eX9_in.2 ⟨Nat.le_of_ble_eq_true rfl, Nat.le_of_ble_eq_true rfl⟩) rfl rfl hl.1 (Nat.le_of_ble_eq_true rfl) ⟨Nat.zero_le _, Nat.zero_le _⟩ dX9_pass_6 (fun r2 M1 H locs hw hP hS => ?_)
  refine lv_if_ne (tgt := 15) hx hb dX9_pass_9 (by decide) (fun c3 => ?_) (fun c3 => ?_)
  · have hw := hw.2 c3
    refine lv_aload_n hx hb dX9_pass_15 rfl (lv_at hl 0 rfl) ?_
    refine g_get (v := .ref (ad 22 0)) hx hb hts hown hK hP (hLm.h (f := 21) (by decide)) (gC21 _ _ _ _) gcl9 iX9_pass_X9 0 (by decide) mX9_pass_2 rfl rfl dX9_pass_16 ?_
    refine lv_iconst (v := (1 : Int32)) hx hb dX9_pass_19 (by decide) ?_
    have hb4 := hw.1
    have hw := hw.2
    refine g_iald (n := 1730) hx hb hK hP (hLm.h (f := 22) (by decide)) rfl hb4 dX9_pass_20 ?_
    refine lv_iload_n hx hb dX9_pass_21 rfl (lv_at hl 1 rfl) ?_
    refine lv_iadd hx hb dX9_pass_22 ?_
    refine lv_sipush (v := (999 : Int32)) hx hb dX9_pass_23 (by decide) ?_
    refine lv_icmp_le (tgt := 32) hx hb dX9_pass_26 (by decide) (fun c5 => ?_) (fun c5 => ?_)
    · have hw := hw.1 c5
      refine lv_aload_n hx hb dX9_pass_32 rfl (lv_at hl 0 rfl) ?_
      refine g_Vv (As := []) (rest := []) S hK hN hP hS (qX9_remember l D E ad L A hF hLm M1  _ hw) (cwV 0 hts gX9_pass_X9_remember rfl rfl rfl eX9_remember ⟨Nat.le_of_ble_eq_true rfl, Nat.le_of_ble_eq_true rfl⟩) (hLm.h (f := 21) (by decide)) (gC21 _ _ _ _) gcl9 rfl rfl rfl hl.1 (Nat.le_of_ble_eq_true rfl) ⟨Nat.zero_le _, Nat.zero_le _⟩ dX9_pass_33 (fun M6 H locs hw hP hS => ?_)
      refine lv_aload_n hx hb dX9_pass_36 rfl (lv_at hl 0 rfl) ?_
      refine g_get (v := .ref (ad 22 0)) hx hb hts hown hK hP (hLm.h (f := 21) (by decide)) (gC21 _ _ _ _) gcl9 iX9_pass_X9 0 (by decide) mX9_pass_2 rfl rfl dX9_pass_37 ?_
      refine lv_iconst (v := (1 : Int32)) hx hb dX9_pass_40 (by decide) ?_
      refine lv_dup2_11 hx hb dX9_pass_41 rfl rfl ?_
      have hb7 := hw.1
      have hw := hw.2
      refine g_iald (n := 1730) hx hb hK hP (hLm.h (f := 22) (by decide)) rfl hb7 dX9_pass_42 ?_
      refine lv_iload_n hx hb dX9_pass_43 rfl (lv_at hl 1 rfl) ?_
      refine lv_iadd hx hb dX9_pass_44 ?_
      have hb8 := hw.1
      have hw := hw.2
      refine g_iast (n := 1730) hx hb hF hK hP hS (hLm.h (f := 22) (by decide)) (fun _ => rfl) hb8 dX9_pass_45 (fun M9 e10 H locs hP hS => ?_)
      have hw := hw M9 e10
      refine lv_iconst (v := (0 : Int32)) hx hb dX9_pass_46 (by decide) ?_
      refine lv_istore_n (lv' := [(2, .int (0 : Int32)), (0, .ref (ad 21 0)), (1, .int a1)]) hx hb dX9_pass_47 rfl hl (by decide) rfl (fun ls hl => ?_)
      refine lv_iconst (v := (0 : Int32)) hx hb dX9_pass_48 (by decide) ?_
      refine lv_istore_n (lv' := [(3, .int (0 : Int32)), (2, .int (0 : Int32)), (0, .ref (ad 21 0)), (1, .int a1)]) hx hb dX9_pass_49 rfl hl (by decide) rfl (fun ls hl => ?_)
      obtain ⟨n33, hw⟩ := hw
      have hxX9_pass_L50_0 : ∀ (M28 : gW) (x2_29 : Int32) (x3_30 : Int32) (H : Heap) (locs : List Loc) (ls : Array Slot), (wX9_acted M28 x2_29 (fun r32 M31 => (K r32 M31))) → va_P D vwCl (gL E ad L M28) H → va_S A s.heap H locs → lv_has ls 4 [(0, .ref (ad 21 0)), (1, .int a1), (2, .int x2_29), (3, .int x3_30)] → W p l e (headSpec wsX9_pass rmX9_pass).room s m (([.ref (ad 21 0), .int a1] : List Value).toArray) below meth c H locs 0 0 (MQ below (gQi D E ad L A K) ([.ref (ad 21 0), .int a1] : List Value).toArray s 0 0 A) (F0 m 122 ls []) := by
        intro M28 x2_29 x3_30 H locs ls hw hP hS hl
        refine lv_aload_n hx hb dX9_pass_122 rfl (lv_at hl 0 rfl) ?_
        refine lv_iload_n hx hb dX9_pass_123 rfl (lv_at hl 2 rfl) ?_
        refine g_Vi (As := [.int x2_29]) (rest := []) S hK hN hP hS (qX9_acted l D E ad L A hF hLm M28 x2_29  _ hw) (cwV 1 hts gX9_pass_X9_acted rfl rfl rfl eX9_acted ⟨Nat.le_of_ble_eq_true rfl, Nat.le_of_ble_eq_true rfl⟩) (hLm.h (f := 21) (by decide)) (gC21 _ _ _ _) gcl9 rfl rfl rfl hl.1 (Nat.le_of_ble_eq_true rfl) ⟨Nat.zero_le _, Nat.zero_le _⟩ dX9_pass_124 (fun r32 M31 H locs hw hP hS => ?_)
        exact g_iret hx hb hr hlocks hw hP hS dX9_pass_127
      have hlX9_pass_L50 : ∀ (n11 : Nat) (M12 : gW) (x2_13 : Int32) (x3_14 : Int32) (H : Heap) (locs : List Loc) (ls : Array Slot), wX9_pass_L50 a1 (fun M28 x2_29 x3_30 => (wX9_acted M28 x2_29 (fun r32 M31 => (K r32 M31)))) n11 M12 x2_13 x3_14 → va_P D vwCl (gL E ad L M12) H → va_S A s.heap H locs → lv_has ls 4 [(0, .ref (ad 21 0)), (1, .int a1), (2, .int x2_13), (3, .int x3_14)] → W p l e (headSpec wsX9_pass rmX9_pass).room s m (([.ref (ad 21 0), .int a1] : List Value).toArray) below meth c H locs 0 0 (MQ below (gQi D E ad L A K) ([.ref (ad 21 0), .int a1] : List Value).toArray s 0 0 A) (F0 m 50 ls []) := by
        intro n11
        induction n11 with
        | zero => intro M12 x2_13 x3_14 H locs ls hw; exact False.elim hw
        | succ n11 ihn11 =>
          intro M12 x2_13 x3_14 H locs ls hw hP hS hl
          refine lv_iload_n hx hb dX9_pass_50 rfl (lv_at hl 3 rfl) ?_
          refine lv_sipush (v := (702 : Int32)) hx hb dX9_pass_51 (by decide) ?_
          refine lv_icmp_ge (tgt := 122) hx hb dX9_pass_54 (by decide) (fun c15 => ?_) (fun c15 => ?_)
          · have hw := hw.1 c15
            exact hxX9_pass_L50_0 _ _ _ _ _ _ hw hP hS (lv_sub hl [0, 1, 2, 3] rfl)
          · have hw := hw.2 c15
            refine lv_aload_n hx hb dX9_pass_57 rfl (lv_at hl 0 rfl) ?_
            refine g_get (v := .ref (ad 22 0)) hx hb hts hown hK hP (hLm.h (f := 21) (by decide)) (gC21 _ _ _ _) gcl9 iX9_pass_X9 0 (by decide) mX9_pass_2 rfl rfl dX9_pass_58 ?_
            refine lv_bipush (v := (6 : Int32)) hx hb dX9_pass_61 (by decide) ?_
            refine lv_iload_n hx hb dX9_pass_63 rfl (lv_at hl 3 rfl) ?_
            refine lv_iadd hx hb dX9_pass_64 ?_
            refine lv_dup2_11 hx hb dX9_pass_65 rfl rfl ?_
            have hb16 := hw.1
            have hw := hw.2
            refine g_iald (n := 1730) hx hb hK hP (hLm.h (f := 22) (by decide)) rfl hb16 dX9_pass_66 ?_
            refine lv_iload_n hx hb dX9_pass_67 rfl (lv_at hl 1 rfl) ?_
            refine lv_ishr hx hb dX9_pass_68 ?_
            have hb17 := hw.1
            have hw := hw.2
            refine g_iast (n := 1730) hx hb hF hK hP hS (hLm.h (f := 22) (by decide)) (fun _ => rfl) hb17 dX9_pass_69 (fun M18 e19 H locs hP hS => ?_)
            have hw := hw M18 e19
            refine lv_aload_n hx hb dX9_pass_70 rfl (lv_at hl 0 rfl) ?_
            refine g_get (v := .ref (ad 22 0)) hx hb hts hown hK hP (hLm.h (f := 21) (by decide)) (gC21 _ _ _ _) gcl9 iX9_pass_X9 0 (by decide) mX9_pass_2 rfl rfl dX9_pass_71 ?_
            refine lv_sipush (v := (708 : Int32)) hx hb dX9_pass_74 (by decide) ?_
            refine lv_iload_n hx hb dX9_pass_77 rfl (lv_at hl 3 rfl) ?_
            refine lv_iadd hx hb dX9_pass_78 ?_
            refine lv_dup2_11 hx hb dX9_pass_79 rfl rfl ?_
            have hb20 := hw.1
            have hw := hw.2
            refine g_iald (n := 1730) hx hb hK hP (hLm.h (f := 22) (by decide)) rfl hb20 dX9_pass_80 ?_
            refine lv_iload_n hx hb dX9_pass_81 rfl (lv_at hl 1 rfl) ?_
            refine lv_ishr hx hb dX9_pass_82 ?_
            have hb21 := hw.1
            have hw := hw.2
            refine g_iast (n := 1730) hx hb hF hK hP hS (hLm.h (f := 22) (by decide)) (fun _ => rfl) hb21 dX9_pass_83 (fun M22 e23 H locs hP hS => ?_)
            have hw := hw M22 e23
            refine lv_iload_n hx hb dX9_pass_84 rfl (lv_at hl 2 rfl) ?_
            refine lv_aload_n hx hb dX9_pass_85 rfl (lv_at hl 0 rfl) ?_
            refine g_get (v := .ref (ad 22 0)) hx hb hts hown hK hP (hLm.h (f := 21) (by decide)) (gC21 _ _ _ _) gcl9 iX9_pass_X9 0 (by decide) mX9_pass_2 rfl rfl dX9_pass_86 ?_
            refine lv_bipush (v := (6 : Int32)) hx hb dX9_pass_89 (by decide) ?_
            refine lv_iload_n hx hb dX9_pass_91 rfl (lv_at hl 3 rfl) ?_
            refine lv_iadd hx hb dX9_pass_92 ?_
            have hb24 := hw.1
            have hw := hw.2
            refine g_iald (n := 1730) hx hb hK hP (hLm.h (f := 22) (by decide)) rfl hb24 dX9_pass_93 ?_
            refine lv_if_ne (tgt := 113) hx hb dX9_pass_94 (by decide) (fun c25 => ?_) (fun c25 => ?_)
            · have hw := hw.2 c25
              refine lv_iconst (v := (0 : Int32)) hx hb dX9_pass_113 (by decide) ?_
              refine lv_iadd hx hb dX9_pass_114 ?_
              refine lv_istore_n (lv' := [(2, .int (x2_13 + (0 : Int32))), (0, .ref (ad 21 0)), (1, .int a1), (3, .int x3_14)]) hx hb dX9_pass_115 rfl hl (by decide) rfl (fun ls hl => ?_)
              refine lv_iinc (v := (x3_14 + (1 : Int32))) (lv' := [(3, .int (x3_14 + (1 : Int32))), (2, .int (x2_13 + (0 : Int32))), (0, .ref (ad 21 0)), (1, .int a1)]) hx hb dX9_pass_116 hl (k := 3) rfl rfl (by decide) rfl (fun ls hl => ?_)
              refine lv_goto (tgt := 50) hx hb dX9_pass_119 (by decide) ?_
              exact ihn11 _ _ _ _ _ _ hw hP hS (lv_sub hl [2, 3, 1, 0] rfl)
            · have hw := hw.1 c25
              refine lv_aload_n hx hb dX9_pass_97 rfl (lv_at hl 0 rfl) ?_
              refine g_get (v := .ref (ad 22 1)) hx hb hts hown hK hP (hLm.h (f := 21) (by decide)) (gC21 _ _ _ _) gcl9 iX9_pass_X9 1 (by decide) mX9_pass_3 rfl rfl dX9_pass_98 ?_
              refine lv_bipush (v := (6 : Int32)) hx hb dX9_pass_101 (by decide) ?_
              refine lv_iload_n hx hb dX9_pass_103 rfl (lv_at hl 3 rfl) ?_
              refine lv_iadd hx hb dX9_pass_104 ?_
              have hb26 := hw.1
              have hw := hw.2
              refine g_iald (n := 1730) hx hb hK hP (hLm.h (f := 22) (by decide)) rfl hb26 dX9_pass_105 ?_
              refine lv_if_le (tgt := 113) hx hb dX9_pass_106 (by decide) (fun c27 => ?_) (fun c27 => ?_)
              · have hw := hw.1 c27
                refine lv_iconst (v := (0 : Int32)) hx hb dX9_pass_113 (by decide) ?_
                refine lv_iadd hx hb dX9_pass_114 ?_
                refine lv_istore_n (lv' := [(2, .int (x2_13 + (0 : Int32))), (0, .ref (ad 21 0)), (1, .int a1), (3, .int x3_14)]) hx hb dX9_pass_115 rfl hl (by decide) rfl (fun ls hl => ?_)
                refine lv_iinc (v := (x3_14 + (1 : Int32))) (lv' := [(3, .int (x3_14 + (1 : Int32))), (2, .int (x2_13 + (0 : Int32))), (0, .ref (ad 21 0)), (1, .int a1)]) hx hb dX9_pass_116 hl (k := 3) rfl rfl (by decide) rfl (fun ls hl => ?_)
                refine lv_goto (tgt := 50) hx hb dX9_pass_119 (by decide) ?_
                exact ihn11 _ _ _ _ _ _ hw hP hS (lv_sub hl [2, 3, 1, 0] rfl)
              · have hw := hw.2 c27
                refine lv_iconst (v := (1 : Int32)) hx hb dX9_pass_109 (by decide) ?_
                refine lv_goto (tgt := 114) hx hb dX9_pass_110 (by decide) ?_
                refine lv_iadd hx hb dX9_pass_114 ?_
                refine lv_istore_n (lv' := [(2, .int (x2_13 + (1 : Int32))), (0, .ref (ad 21 0)), (1, .int a1), (3, .int x3_14)]) hx hb dX9_pass_115 rfl hl (by decide) rfl (fun ls hl => ?_)
                refine lv_iinc (v := (x3_14 + (1 : Int32))) (lv' := [(3, .int (x3_14 + (1 : Int32))), (2, .int (x2_13 + (1 : Int32))), (0, .ref (ad 21 0)), (1, .int a1)]) hx hb dX9_pass_116 hl (k := 3) rfl rfl (by decide) rfl (fun ls hl => ?_)
                refine lv_goto (tgt := 50) hx hb dX9_pass_119 (by decide) ?_
                exact ihn11 _ _ _ _ _ _ hw hP hS (lv_sub hl [2, 3, 1, 0] rfl)
      exact hlX9_pass_L50 n33 _ _ _ _ _ _ hw hP hS (lv_sub hl [2, 3, 1, 0] rfl)
    · have hw := hw.2 c5
      refine lv_bipush (v := (-3 : Int32)) hx hb dX9_pass_29 (by decide) ?_
      exact g_iret hx hb hr hlocks hw hP hS dX9_pass_31
  · have hw := hw.1 c3
    refine lv_bipush (v := (-2 : Int32)) hx hb dX9_pass_12 (by decide) ?_
    exact g_iret hx hb hr hlocks hw hP hS dX9_pass_14
abbrev rmX9_setUntried : Room := { frames := 2, cells := 0, slots := 0, locals := 42 }
theorem eX9_setUntried : yX9_setUntried.cls = RX9 ∧ yX9_setUntried.cls ≠ "java/lang/invoke/MethodHandle" ∧ yX9_setUntried.cls ≠ "java/lang/invoke/VarHandle" ∧ (parseMethodDescriptor yX9_setUntried.desc).map (fun d => d.parameters.length) = some 1 := by decide +kernel
theorem mX9_setUntried_1 : Cond.constantLong RX9 140 (99) ∈ wsX9_setUntried := List.mem_of_getElem? (i := 1) rfl
theorem iX9_setUntried_X9 : ∀ w ∈ wsX90, w ∈ wsX9_setUntried := fun _ h => List.mem_cons_of_mem _ (List.mem_append_right _ (h))
theorem mX9_setUntried_2 : Cond.fieldLink RX9 7 "PracticeSheetsModel" "all" "[I" ∈ wsX9_setUntried := List.mem_of_getElem? (i := 2) rfl
set_option maxHeartbeats 4000000 in
set_option maxRecDepth 100000 in
theorem qX9_setUntried (l : Launch) (D : va_G) (E : Nat → ClassId) (ad : Nat → Nat → Nat) (L : List (Nat × Nat)) (A : Nat → Prop) (hF : gF E ad L A) (hLm : gLm L) (M0 : gW) (a1 : Int32)  (K : Int32 → gW → Prop) (hw : wX9_setUntried M0 a1 K) : Met l yX9_setUntried wsX9_setUntried rmX9_setUntried (va_Pc [.ref (ad 21 0), .int a1] (gPre D E ad L M0)) (gQi D E ad L A K) 0 0 A := by
  refine Met.ofW (cc := cX9_setUntried) (maxL := 3) (ret := (some .int)) (by decide) rfl ?_
  intro p e s m args below meth c s₁ B hml hv
  obtain ⟨rfl, hP, hK, hN⟩ := hv
  have hx := B.exec
  have hb := B.bytes
  have hr := B.returns
  have hts := atoms_spec (ws := wsX9_setUntried) B.pre
  have hown : s.vm.findClass RX9 = some m.cls := findClass_of_methodNamed B.named
  have hlocks := B.notSynchronized
  have S : CallFix p m c cX9_setUntried 3 s ([.ref (ad 21 0), .int a1] : List Value).toArray wsX9_setUntried RX9 := ⟨hx, hb, hml, hown, hts⟩
  have hS : va_S A s.heap s.heap [] := va_S.rf
  have hl := lv_entry ([.ref (ad 21 0), .int a1]) (n := 3) (Nat.le_of_ble_eq_true rfl)
  rw [lg_entry_eq]
  generalize (lg_sl ([.ref (ad 21 0), .int a1]) ++ List.replicate (3 - (lg_sl ([.ref (ad 21 0), .int a1])).length) Slot.unset).toArray = ls at hl ⊢
  have hl : lv_has ls 3 [(0, .ref (ad 21 0)), (1, .int a1)] := hl
  refine lv_iload_n hx hb dX9_setUntried_0 rfl (lv_at hl 1 rfl) ?_
  refine lv_i2l (v := a1.toInt64) hx hb dX9_setUntried_1 rfl ?_
  refine lv_lconst (v := (0 : Int64)) hx hb dX9_setUntried_2 (by decide) ?_
  refine lv_ldc2 (v := (99 : Int64)) hx hb hown (hts _ mX9_setUntried_1) dX9_setUntried_3 ?_
  refine g_Si (As := [.long (a1.toInt64), .long (0 : Int64), .long (99 : Int64)]) (rest := []) S hK hN hP hS (qX9_in l D E ad L A hF hLm M0 (a1.toInt64) (0 : Int64) (99 : Int64)  _ hw) (va_cwS 3 hts gX9_setUntried_X9_in rfl rfl rfl eX9_in.2 ⟨Nat.le_of_ble_eq_true rfl, Nat.le_of_ble_eq_true rfl⟩) rfl rfl hl.1 (Nat.le_of_ble_eq_true rfl) ⟨Nat.zero_le _, Nat.zero_le _⟩ dX9_setUntried_6 (fun r2 M1 H locs hw hP hS => ?_)
  refine lv_if_ne (tgt := 15) hx hb dX9_setUntried_9 (by decide) (fun c3 => ?_) (fun c3 => ?_)
  · have hw := hw.2 c3
    refine lv_aload_n hx hb dX9_setUntried_15 rfl (lv_at hl 0 rfl) ?_
    refine g_get (v := .ref (ad 22 0)) hx hb hts hown hK hP (hLm.h (f := 21) (by decide)) (gC21 _ _ _ _) gcl9 iX9_setUntried_X9 0 (by decide) mX9_setUntried_2 rfl rfl dX9_setUntried_16 ?_
    refine lv_iconst (v := (0 : Int32)) hx hb dX9_setUntried_19 (by decide) ?_
    have hb4 := hw.1
    have hw := hw.2
    refine g_iald (n := 1730) hx hb hK hP (hLm.h (f := 22) (by decide)) rfl hb4 dX9_setUntried_20 ?_
    refine lv_istore_n (lv' := [(2, .int (M1 22 0 (0 : Int32).toNatClampNeg)), (0, .ref (ad 21 0)), (1, .int a1)]) hx hb dX9_setUntried_21 rfl hl (by decide) rfl (fun ls hl => ?_)
    refine lv_iload_n hx hb dX9_setUntried_22 rfl (lv_at hl 0 rfl) ?_
    refine lv_iload_n hx hb dX9_setUntried_23 rfl (lv_at hl 2 rfl) ?_
    refine lv_icmp_ne (tgt := 30) hx hb dX9_setUntried_24 (by decide) (fun c5 => ?_) (fun c5 => ?_)
    · have hw := hw.2 c5
      refine lv_aload_n hx hb dX9_setUntried_30 rfl (lv_at hl 1 rfl) ?_
      refine g_Vv (As := []) (rest := []) S hK hN hP hS (qX9_remember l D E ad L A hF hLm M1  _ hw) (cwV 0 hts gX9_setUntried_X9_remember rfl rfl rfl eX9_remember ⟨Nat.le_of_ble_eq_true rfl, Nat.le_of_ble_eq_true rfl⟩) (hLm.h (f := 21) (by decide)) (gC21 _ _ _ _) gcl9 rfl rfl rfl hl.1 (Nat.le_of_ble_eq_true rfl) ⟨Nat.zero_le _, Nat.zero_le _⟩ dX9_setUntried_31 (fun M6 H locs hw hP hS => ?_)
      refine lv_aload_n hx hb dX9_setUntried_34 rfl (lv_at hl 1 rfl) ?_
      refine g_get (v := .ref (ad 22 0)) hx hb hts hown hK hP (hLm.h (f := 21) (by decide)) (gC21 _ _ _ _) gcl9 iX9_setUntried_X9 0 (by decide) mX9_setUntried_2 rfl rfl dX9_setUntried_35 ?_
      refine lv_iconst (v := (0 : Int32)) hx hb dX9_setUntried_38 (by decide) ?_
      refine lv_iload_n hx hb dX9_setUntried_39 rfl (lv_at hl 2 rfl) ?_
      have hb7 := hw.1
      have hw := hw.2
      refine g_iast (n := 1730) hx hb hF hK hP hS (hLm.h (f := 22) (by decide)) (fun _ => rfl) hb7 dX9_setUntried_40 (fun M8 e9 H locs hP hS => ?_)
      have hw := hw M8 e9
      refine lv_aload_n hx hb dX9_setUntried_41 rfl (lv_at hl 1 rfl) ?_
      refine lv_iload_n hx hb dX9_setUntried_42 rfl (lv_at hl 0 rfl) ?_
      refine g_Vi (As := [.int (M1 22 0 (0 : Int32).toNatClampNeg)]) (rest := []) S hK hN hP hS (qX9_acted l D E ad L A hF hLm M8 (M1 22 0 (0 : Int32).toNatClampNeg)  _ hw) (cwV 1 hts gX9_setUntried_X9_acted rfl rfl rfl eX9_acted ⟨Nat.le_of_ble_eq_true rfl, Nat.le_of_ble_eq_true rfl⟩) (hLm.h (f := 21) (by decide)) (gC21 _ _ _ _) gcl9 rfl rfl rfl hl.1 (Nat.le_of_ble_eq_true rfl) ⟨Nat.zero_le _, Nat.zero_le _⟩ dX9_setUntried_43 (fun r11 M10 H locs hw hP hS => ?_)
      exact g_iret hx hb hr hlocks hw hP hS dX9_setUntried_46
    · have hw := hw.1 c5
      refine lv_bipush (v := (-5 : Int32)) hx hb dX9_setUntried_27 (by decide) ?_
      exact g_iret hx hb hr hlocks hw hP hS dX9_setUntried_29
  · have hw := hw.1 c3
    refine lv_bipush (v := (-2 : Int32)) hx hb dX9_setUntried_12 (by decide) ?_
    exact g_iret hx hb hr hlocks hw hP hS dX9_setUntried_14
abbrev rmX9_isOnList : Room := { frames := 1, cells := 0, slots := 0, locals := 22 }
theorem eX9_isOnList : yX9_isOnList.cls = RX9 ∧ yX9_isOnList.cls ≠ "java/lang/invoke/MethodHandle" ∧ yX9_isOnList.cls ≠ "java/lang/invoke/VarHandle" ∧ (parseMethodDescriptor yX9_isOnList.desc).map (fun d => d.parameters.length) = some 2 := by decide +kernel
theorem iX9_isOnList_X9 : ∀ w ∈ wsX90, w ∈ wsX9_isOnList := fun _ h => List.mem_cons_of_mem _ (List.mem_append_right _ (h))
theorem mX9_isOnList_1 : Cond.fieldLink RX9 7 "PracticeSheetsModel" "all" "[I" ∈ wsX9_isOnList := List.mem_of_getElem? (i := 1) rfl
theorem mX9_isOnList_2 : Cond.fieldLink RX9 37 "PracticeSheetsModel" "text" "[I" ∈ wsX9_isOnList := List.mem_of_getElem? (i := 2) rfl
set_option maxHeartbeats 4000000 in
set_option maxRecDepth 100000 in
theorem qX9_isOnList (l : Launch) (D : va_G) (E : Nat → ClassId) (ad : Nat → Nat → Nat) (L : List (Nat × Nat)) (A : Nat → Prop) (hF : gF E ad L A) (hLm : gLm L) (M0 : gW) (a1 : Int32) (a2 : Int32)  (K : Int32 → gW → Prop) (hw : wX9_isOnList M0 a1 a2 K) : Met l yX9_isOnList wsX9_isOnList rmX9_isOnList (va_Pc [.ref (ad 21 0), .int a1, .int a2] (gPre D E ad L M0)) (gQi D E ad L A K) 0 0 A := by
  refine Met.ofW (cc := cX9_isOnList) (maxL := 7) (ret := (some .boolean)) (by decide) rfl ?_
  intro p e s m args below meth c s₁ B hml hv
  obtain ⟨rfl, hP, hK, hN⟩ := hv
  have hx := B.exec
  have hb := B.bytes
  have hr := B.returns
  have hts := atoms_spec (ws := wsX9_isOnList) B.pre
  have hown : s.vm.findClass RX9 = some m.cls := findClass_of_methodNamed B.named
  have hlocks := B.notSynchronized
  have S : CallFix p m c cX9_isOnList 7 s ([.ref (ad 21 0), .int a1, .int a2] : List Value).toArray wsX9_isOnList RX9 := ⟨hx, hb, hml, hown, hts⟩
  have hS : va_S A s.heap s.heap [] := va_S.rf
  have hl := lv_entry ([.ref (ad 21 0), .int a1, .int a2]) (n := 7) (Nat.le_of_ble_eq_true rfl)
  rw [lg_entry_eq]
  generalize (lg_sl ([.ref (ad 21 0), .int a1, .int a2]) ++ List.replicate (7 - (lg_sl ([.ref (ad 21 0), .int a1, .int a2])).length) Slot.unset).toArray = ls at hl ⊢
  have hl : lv_has ls 7 [(0, .ref (ad 21 0)), (1, .int a1), (2, .int a2)] := hl
  refine lv_iconst (v := (0 : Int32)) hx hb dX9_isOnList_0 (by decide) ?_
  refine lv_istore_n (lv' := [(3, .int (0 : Int32)), (0, .ref (ad 21 0)), (1, .int a1), (2, .int a2)]) hx hb dX9_isOnList_1 rfl hl (by decide) rfl (fun ls hl => ?_)
  refine lv_iconst (v := (0 : Int32)) hx hb dX9_isOnList_2 (by decide) ?_
  refine lv_istore (lv' := [(4, .int (0 : Int32)), (3, .int (0 : Int32)), (0, .ref (ad 21 0)), (1, .int a1), (2, .int a2)]) hx hb dX9_isOnList_3 hl (by decide) rfl (fun ls hl => ?_)
  obtain ⟨n33, hw⟩ := hw
  have hxX9_isOnList_L5_0 : ∀ (M29 : gW) (x3_30 : Int32) (x4_31 : Int32) (H : Heap) (locs : List Loc) (ls : Array Slot), ((x3_30 = 0 ∨ x3_30 = 1) ∧ (K x3_30 M29)) → va_P D vwCl (gL E ad L M29) H → va_S A s.heap H locs → lv_has ls 7 [(0, .ref (ad 21 0)), (1, .int a1), (2, .int a2), (3, .int x3_30), (4, .int x4_31)] → W p l e (headSpec wsX9_isOnList rmX9_isOnList).room s m (([.ref (ad 21 0), .int a1, .int a2] : List Value).toArray) below meth c H locs 0 0 (MQ below (gQi D E ad L A K) ([.ref (ad 21 0), .int a1, .int a2] : List Value).toArray s 0 0 A) (F0 m 104 ls []) := by
    intro M29 x3_30 x4_31 H locs ls hw hP hS hl
    refine lv_iload_n hx hb dX9_isOnList_104 rfl (lv_at hl 3 rfl) ?_
    have hb32 := hw.1
    have hw := hw.2
    exact g_zret hx hb hr hlocks hb32 hw hP hS dX9_isOnList_105
  have hlX9_isOnList_L5 : ∀ (n1 : Nat) (M2 : gW) (x3_3 : Int32) (x4_4 : Int32) (H : Heap) (locs : List Loc) (ls : Array Slot), wX9_isOnList_L5 a1 a2 (fun M29 x3_30 x4_31 => ((x3_30 = 0 ∨ x3_30 = 1) ∧ (K x3_30 M29))) n1 M2 x3_3 x4_4 → va_P D vwCl (gL E ad L M2) H → va_S A s.heap H locs → lv_has ls 7 [(0, .ref (ad 21 0)), (1, .int a1), (2, .int a2), (3, .int x3_3), (4, .int x4_4)] → W p l e (headSpec wsX9_isOnList rmX9_isOnList).room s m (([.ref (ad 21 0), .int a1, .int a2] : List Value).toArray) below meth c H locs 0 0 (MQ below (gQi D E ad L A K) ([.ref (ad 21 0), .int a1, .int a2] : List Value).toArray s 0 0 A) (F0 m 5 ls []) := by
    intro n1
    induction n1 with
    | zero => intro M2 x3_3 x4_4 H locs ls hw; exact False.elim hw
    | succ n1 ihn1 =>
      intro M2 x3_3 x4_4 H locs ls hw hP hS hl
      refine lv_iload hx hb dX9_isOnList_5 (lv_at hl 4 rfl) ?_
      refine lv_aload_n hx hb dX9_isOnList_7 rfl (lv_at hl 0 rfl) ?_
      refine g_get (v := .ref (ad 22 0)) hx hb hts hown hK hP (hLm.h (f := 21) (by decide)) (gC21 _ _ _ _) gcl9 iX9_isOnList_X9 0 (by decide) mX9_isOnList_1 rfl rfl dX9_isOnList_8 ?_
      refine lv_iconst (v := (5 : Int32)) hx hb dX9_isOnList_11 (by decide) ?_
      have hb5 := hw.1
      have hw := hw.2
      refine g_iald (n := 1730) hx hb hK hP (hLm.h (f := 22) (by decide)) rfl hb5 dX9_isOnList_12 ?_
      refine lv_icmp_ge (tgt := 104) hx hb dX9_isOnList_13 (by decide) (fun c6 => ?_) (fun c6 => ?_)
      · have hw := hw.1 c6
        exact hxX9_isOnList_L5_0 _ _ _ _ _ _ hw hP hS (lv_sub hl [0, 1, 2, 3, 4] rfl)
      · have hw := hw.2 c6
        refine lv_aload_n hx hb dX9_isOnList_16 rfl (lv_at hl 0 rfl) ?_
        refine lv_iload hx hb dX9_isOnList_17 (lv_at hl 4 rfl) ?_
        refine g_Vi (As := [.int x4_4]) (rest := []) S hK hN hP hS (qX9_sizeOf l D E ad L A hF hLm M2 x4_4  _ hw) (cwV 1 hts gX9_isOnList_X9_sizeOf rfl rfl rfl eX9_sizeOf ⟨Nat.le_of_ble_eq_true rfl, Nat.le_of_ble_eq_true rfl⟩) (hLm.h (f := 21) (by decide)) (gC21 _ _ _ _) gcl9 rfl rfl rfl hl.1 (Nat.le_of_ble_eq_true rfl) ⟨Nat.zero_le _, Nat.zero_le _⟩ dX9_isOnList_19 (fun r8 M7 H locs hw hP hS => ?_)
        refine lv_iload_n hx hb dX9_isOnList_22 rfl (lv_at hl 2 rfl) ?_
        obtain ⟨J10, eJ10⟩ : ∃ J10 : gW → Int32 → Prop, J10 = (fun M11 z12 => (∃ n28 : Nat, wX9_isOnList_L36 a1 a2 x4_4 (fun M23 x5_24 x6_25 => ((x3_3 = 0 → ((x5_24 = 0 → (wX9_isOnList_L5 a1 a2 (fun M29 x3_30 x4_31 => ((x3_30 = 0 ∨ x3_30 = 1) ∧ (K x3_30 M29))) n1 M23 (0 : Int32) (x4_4 + (1 : Int32)))) ∧ (¬ (x5_24 = 0) → (wX9_isOnList_L5 a1 a2 (fun M29 x3_30 x4_31 => ((x3_30 = 0 ∨ x3_30 = 1) ∧ (K x3_30 M29))) n1 M23 (1 : Int32) (x4_4 + (1 : Int32)))))) ∧ (¬ (x3_3 = 0) → (wX9_isOnList_L5 a1 a2 (fun M29 x3_30 x4_31 => ((x3_30 = 0 ∨ x3_30 = 1) ∧ (K x3_30 M29))) n1 M23 (1 : Int32) (x4_4 + (1 : Int32)))))) n28 M11 z12 (0 : Int32))) := ⟨_, rfl⟩
        have hw : (r8 = a2 → (J10 M7 (1 : Int32))) ∧ (¬ (r8 = a2) → (J10 M7 (0 : Int32))) := by rw [eJ10]; exact hw
        have hJ10 : ∀ (M11 : gW) (z12 : Int32) (H : Heap) (locs : List Loc) (ls : Array Slot), J10 M11 z12 → va_P D vwCl (gL E ad L M11) H → va_S A s.heap H locs → lv_has ls 7 [(0, .ref (ad 21 0)), (1, .int a1), (2, .int a2), (3, .int x3_3), (4, .int x4_4)] → W p l e (headSpec wsX9_isOnList rmX9_isOnList).room s m (([.ref (ad 21 0), .int a1, .int a2] : List Value).toArray) below meth c H locs 0 0 (MQ below (gQi D E ad L A K) ([.ref (ad 21 0), .int a1, .int a2] : List Value).toArray s 0 0 A) (F0 m 31 ls [.int z12]) := by
          intro M11 z12 H locs ls hw hP hS hl
          rw [eJ10] at hw
          refine lv_istore (lv' := [(5, .int z12), (0, .ref (ad 21 0)), (1, .int a1), (2, .int a2), (3, .int x3_3), (4, .int x4_4)]) hx hb dX9_isOnList_31 hl (by decide) rfl (fun ls hl => ?_)
          refine lv_iconst (v := (0 : Int32)) hx hb dX9_isOnList_33 (by decide) ?_
          refine lv_istore (lv' := [(6, .int (0 : Int32)), (5, .int z12), (0, .ref (ad 21 0)), (1, .int a1), (2, .int a2), (3, .int x3_3), (4, .int x4_4)]) hx hb dX9_isOnList_34 hl (by decide) rfl (fun ls hl => ?_)
          obtain ⟨n28, hw⟩ := hw
          have hxX9_isOnList_L36_0 : ∀ (M23 : gW) (x5_24 : Int32) (x6_25 : Int32) (H : Heap) (locs : List Loc) (ls : Array Slot), ((x3_3 = 0 → ((x5_24 = 0 → (wX9_isOnList_L5 a1 a2 (fun M29 x3_30 x4_31 => ((x3_30 = 0 ∨ x3_30 = 1) ∧ (K x3_30 M29))) n1 M23 (0 : Int32) (x4_4 + (1 : Int32)))) ∧ (¬ (x5_24 = 0) → (wX9_isOnList_L5 a1 a2 (fun M29 x3_30 x4_31 => ((x3_30 = 0 ∨ x3_30 = 1) ∧ (K x3_30 M29))) n1 M23 (1 : Int32) (x4_4 + (1 : Int32)))))) ∧ (¬ (x3_3 = 0) → (wX9_isOnList_L5 a1 a2 (fun M29 x3_30 x4_31 => ((x3_30 = 0 ∨ x3_30 = 1) ∧ (K x3_30 M29))) n1 M23 (1 : Int32) (x4_4 + (1 : Int32))))) → va_P D vwCl (gL E ad L M23) H → va_S A s.heap H locs → lv_has ls 7 [(0, .ref (ad 21 0)), (1, .int a1), (2, .int a2), (3, .int x3_3), (4, .int x4_4), (5, .int x5_24), (6, .int x6_25)] → W p l e (headSpec wsX9_isOnList rmX9_isOnList).room s m (([.ref (ad 21 0), .int a1, .int a2] : List Value).toArray) below meth c H locs 0 0 (MQ below (gQi D E ad L A K) ([.ref (ad 21 0), .int a1, .int a2] : List Value).toArray s 0 0 A) (F0 m 83 ls []) := by
            intro M23 x5_24 x6_25 H locs ls hw hP hS hl
            refine lv_iload_n hx hb dX9_isOnList_83 rfl (lv_at hl 3 rfl) ?_
            refine lv_if_ne (tgt := 92) hx hb dX9_isOnList_84 (by decide) (fun c26 => ?_) (fun c26 => ?_)
            · have hw := hw.2 c26
              refine lv_iconst (v := (1 : Int32)) hx hb dX9_isOnList_92 (by decide) ?_
              refine lv_goto (tgt := 97) hx hb dX9_isOnList_93 (by decide) ?_
              refine lv_istore_n (lv' := [(3, .int (1 : Int32)), (0, .ref (ad 21 0)), (1, .int a1), (2, .int a2), (4, .int x4_4), (5, .int x5_24), (6, .int x6_25)]) hx hb dX9_isOnList_97 rfl hl (by decide) rfl (fun ls hl => ?_)
              refine lv_iinc (v := (x4_4 + (1 : Int32))) (lv' := [(4, .int (x4_4 + (1 : Int32))), (3, .int (1 : Int32)), (0, .ref (ad 21 0)), (1, .int a1), (2, .int a2), (5, .int x5_24), (6, .int x6_25)]) hx hb dX9_isOnList_98 hl (k := 4) rfl rfl (by decide) rfl (fun ls hl => ?_)
              refine lv_goto (tgt := 5) hx hb dX9_isOnList_101 (by decide) ?_
              exact ihn1 _ _ _ _ _ _ hw hP hS (lv_sub hl [2, 3, 4, 1, 0] rfl)
            · have hw := hw.1 c26
              refine lv_iload hx hb dX9_isOnList_87 (lv_at hl 5 rfl) ?_
              refine lv_if_eq (tgt := 96) hx hb dX9_isOnList_89 (by decide) (fun c27 => ?_) (fun c27 => ?_)
              · have hw := hw.1 c27
                refine lv_iconst (v := (0 : Int32)) hx hb dX9_isOnList_96 (by decide) ?_
                refine lv_istore_n (lv' := [(3, .int (0 : Int32)), (0, .ref (ad 21 0)), (1, .int a1), (2, .int a2), (4, .int x4_4), (5, .int x5_24), (6, .int x6_25)]) hx hb dX9_isOnList_97 rfl hl (by decide) rfl (fun ls hl => ?_)
                refine lv_iinc (v := (x4_4 + (1 : Int32))) (lv' := [(4, .int (x4_4 + (1 : Int32))), (3, .int (0 : Int32)), (0, .ref (ad 21 0)), (1, .int a1), (2, .int a2), (5, .int x5_24), (6, .int x6_25)]) hx hb dX9_isOnList_98 hl (k := 4) rfl rfl (by decide) rfl (fun ls hl => ?_)
                refine lv_goto (tgt := 5) hx hb dX9_isOnList_101 (by decide) ?_
                exact ihn1 _ _ _ _ _ _ hw hP hS (lv_sub hl [2, 3, 4, 1, 0] rfl)
              · have hw := hw.2 c27
                refine lv_iconst (v := (1 : Int32)) hx hb dX9_isOnList_92 (by decide) ?_
                refine lv_goto (tgt := 97) hx hb dX9_isOnList_93 (by decide) ?_
                refine lv_istore_n (lv' := [(3, .int (1 : Int32)), (0, .ref (ad 21 0)), (1, .int a1), (2, .int a2), (4, .int x4_4), (5, .int x5_24), (6, .int x6_25)]) hx hb dX9_isOnList_97 rfl hl (by decide) rfl (fun ls hl => ?_)
                refine lv_iinc (v := (x4_4 + (1 : Int32))) (lv' := [(4, .int (x4_4 + (1 : Int32))), (3, .int (1 : Int32)), (0, .ref (ad 21 0)), (1, .int a1), (2, .int a2), (5, .int x5_24), (6, .int x6_25)]) hx hb dX9_isOnList_98 hl (k := 4) rfl rfl (by decide) rfl (fun ls hl => ?_)
                refine lv_goto (tgt := 5) hx hb dX9_isOnList_101 (by decide) ?_
                exact ihn1 _ _ _ _ _ _ hw hP hS (lv_sub hl [2, 3, 4, 1, 0] rfl)
          have hlX9_isOnList_L36 : ∀ (n13 : Nat) (M14 : gW) (x5_15 : Int32) (x6_16 : Int32) (H : Heap) (locs : List Loc) (ls : Array Slot), wX9_isOnList_L36 a1 a2 x4_4 (fun M23 x5_24 x6_25 => ((x3_3 = 0 → ((x5_24 = 0 → (wX9_isOnList_L5 a1 a2 (fun M29 x3_30 x4_31 => ((x3_30 = 0 ∨ x3_30 = 1) ∧ (K x3_30 M29))) n1 M23 (0 : Int32) (x4_4 + (1 : Int32)))) ∧ (¬ (x5_24 = 0) → (wX9_isOnList_L5 a1 a2 (fun M29 x3_30 x4_31 => ((x3_30 = 0 ∨ x3_30 = 1) ∧ (K x3_30 M29))) n1 M23 (1 : Int32) (x4_4 + (1 : Int32)))))) ∧ (¬ (x3_3 = 0) → (wX9_isOnList_L5 a1 a2 (fun M29 x3_30 x4_31 => ((x3_30 = 0 ∨ x3_30 = 1) ∧ (K x3_30 M29))) n1 M23 (1 : Int32) (x4_4 + (1 : Int32)))))) n13 M14 x5_15 x6_16 → va_P D vwCl (gL E ad L M14) H → va_S A s.heap H locs → lv_has ls 7 [(0, .ref (ad 21 0)), (1, .int a1), (2, .int a2), (3, .int x3_3), (4, .int x4_4), (5, .int x5_15), (6, .int x6_16)] → W p l e (headSpec wsX9_isOnList rmX9_isOnList).room s m (([.ref (ad 21 0), .int a1, .int a2] : List Value).toArray) below meth c H locs 0 0 (MQ below (gQi D E ad L A K) ([.ref (ad 21 0), .int a1, .int a2] : List Value).toArray s 0 0 A) (F0 m 36 ls []) := by
            intro n13
            induction n13 with
            | zero => intro M14 x5_15 x6_16 H locs ls hw; exact False.elim hw
            | succ n13 ihn13 =>
              intro M14 x5_15 x6_16 H locs ls hw hP hS hl
              refine lv_iload hx hb dX9_isOnList_36 (lv_at hl 6 rfl) ?_
              refine lv_iload_n hx hb dX9_isOnList_38 rfl (lv_at hl 2 rfl) ?_
              refine lv_icmp_ge (tgt := 83) hx hb dX9_isOnList_39 (by decide) (fun c17 => ?_) (fun c17 => ?_)
              · have hw := hw.1 c17
                exact hxX9_isOnList_L36_0 _ _ _ _ _ _ hw hP hS (lv_sub hl [0, 1, 2, 3, 4, 5, 6] rfl)
              · have hw := hw.2 c17
                refine lv_iload hx hb dX9_isOnList_42 (lv_at hl 5 rfl) ?_
                refine lv_if_eq (tgt := 83) hx hb dX9_isOnList_44 (by decide) (fun c18 => ?_) (fun c18 => ?_)
                · have hw := hw.1 c18
                  exact hxX9_isOnList_L36_0 _ _ _ _ _ _ hw hP hS (lv_sub hl [0, 1, 2, 3, 4, 5, 6] rfl)
                · have hw := hw.2 c18
                  refine lv_aload_n hx hb dX9_isOnList_47 rfl (lv_at hl 0 rfl) ?_
                  refine lv_iload hx hb dX9_isOnList_48 (lv_at hl 4 rfl) ?_
                  refine lv_iload hx hb dX9_isOnList_50 (lv_at hl 6 rfl) ?_
                  refine g_Vi (As := [.int x4_4, .int x6_16]) (rest := []) S hK hN hP hS (qX9_letterAt l D E ad L A hF hLm M14 x4_4 x6_16  _ hw) (cwV 2 hts gX9_isOnList_X9_letterAt rfl rfl rfl eX9_letterAt ⟨Nat.le_of_ble_eq_true rfl, Nat.le_of_ble_eq_true rfl⟩) (hLm.h (f := 21) (by decide)) (gC21 _ _ _ _) gcl9 rfl rfl rfl hl.1 (Nat.le_of_ble_eq_true rfl) ⟨Nat.zero_le _, Nat.zero_le _⟩ dX9_isOnList_52 (fun r20 M19 H locs hw hP hS => ?_)
                  refine lv_aload_n hx hb dX9_isOnList_55 rfl (lv_at hl 0 rfl) ?_
                  refine g_get (v := .ref (ad 22 9)) hx hb hts hown hK hP (hLm.h (f := 21) (by decide)) (gC21 _ _ _ _) gcl9 iX9_isOnList_X9 13 (by decide) mX9_isOnList_2 rfl rfl dX9_isOnList_56 ?_
                  refine lv_iload_n hx hb dX9_isOnList_59 rfl (lv_at hl 1 rfl) ?_
                  refine lv_iload hx hb dX9_isOnList_60 (lv_at hl 6 rfl) ?_
                  refine lv_iadd hx hb dX9_isOnList_62 ?_
                  have hb21 := hw.1
                  have hw := hw.2
                  refine g_iald (n := 60) hx hb hK hP (hLm.h (f := 22) (by decide)) rfl hb21 dX9_isOnList_63 ?_
                  refine lv_bipush (v := (97 : Int32)) hx hb dX9_isOnList_64 (by decide) ?_
                  refine lv_isub hx hb dX9_isOnList_66 ?_
                  refine lv_icmp_ne (tgt := 74) hx hb dX9_isOnList_67 (by decide) (fun c22 => ?_) (fun c22 => ?_)
                  · have hw := hw.2 c22
                    refine lv_iconst (v := (0 : Int32)) hx hb dX9_isOnList_74 (by decide) ?_
                    refine lv_istore (lv' := [(5, .int (0 : Int32)), (0, .ref (ad 21 0)), (1, .int a1), (2, .int a2), (3, .int x3_3), (4, .int x4_4), (6, .int x6_16)]) hx hb dX9_isOnList_75 hl (by decide) rfl (fun ls hl => ?_)
                    refine lv_iinc (v := (x6_16 + (1 : Int32))) (lv' := [(6, .int (x6_16 + (1 : Int32))), (5, .int (0 : Int32)), (0, .ref (ad 21 0)), (1, .int a1), (2, .int a2), (3, .int x3_3), (4, .int x4_4)]) hx hb dX9_isOnList_77 hl (k := 6) rfl rfl (by decide) rfl (fun ls hl => ?_)
                    refine lv_goto (tgt := 36) hx hb dX9_isOnList_80 (by decide) ?_
                    exact ihn13 _ _ _ _ _ _ hw hP hS (lv_sub hl [2, 3, 4, 5, 6, 1, 0] rfl)
                  · have hw := hw.1 c22
                    refine lv_iconst (v := (1 : Int32)) hx hb dX9_isOnList_70 (by decide) ?_
                    refine lv_goto (tgt := 75) hx hb dX9_isOnList_71 (by decide) ?_
                    refine lv_istore (lv' := [(5, .int (1 : Int32)), (0, .ref (ad 21 0)), (1, .int a1), (2, .int a2), (3, .int x3_3), (4, .int x4_4), (6, .int x6_16)]) hx hb dX9_isOnList_75 hl (by decide) rfl (fun ls hl => ?_)
                    refine lv_iinc (v := (x6_16 + (1 : Int32))) (lv' := [(6, .int (x6_16 + (1 : Int32))), (5, .int (1 : Int32)), (0, .ref (ad 21 0)), (1, .int a1), (2, .int a2), (3, .int x3_3), (4, .int x4_4)]) hx hb dX9_isOnList_77 hl (k := 6) rfl rfl (by decide) rfl (fun ls hl => ?_)
                    refine lv_goto (tgt := 36) hx hb dX9_isOnList_80 (by decide) ?_
                    exact ihn13 _ _ _ _ _ _ hw hP hS (lv_sub hl [2, 3, 4, 5, 6, 1, 0] rfl)
          exact hlX9_isOnList_L36 n28 _ _ _ _ _ _ hw hP hS (lv_sub hl [2, 3, 4, 5, 6, 1, 0] rfl)
        refine lv_icmp_ne (tgt := 30) hx hb dX9_isOnList_23 (by decide) (fun c9 => ?_) (fun c9 => ?_)
        · have hw := hw.2 c9
          refine lv_iconst (v := (0 : Int32)) hx hb dX9_isOnList_30 (by decide) ?_
          exact hJ10 _ _ _ _ _ hw hP hS (lv_sub hl [0, 1, 2, 3, 4] rfl)
        · have hw := hw.1 c9
          refine lv_iconst (v := (1 : Int32)) hx hb dX9_isOnList_26 (by decide) ?_
          refine lv_goto (tgt := 31) hx hb dX9_isOnList_27 (by decide) ?_
          exact hJ10 _ _ _ _ _ hw hP hS (lv_sub hl [0, 1, 2, 3, 4] rfl)
  exact hlX9_isOnList_L5 n33 _ _ _ _ _ _ hw hP hS (lv_sub hl [2, 3, 4, 1, 0] rfl)
abbrev rmX9_addsAll : Room := { frames := 2, cells := 0, slots := 0, locals := 48 }
theorem eX9_addsAll : yX9_addsAll.cls = RX9 ∧ yX9_addsAll.cls ≠ "java/lang/invoke/MethodHandle" ∧ yX9_addsAll.cls ≠ "java/lang/invoke/VarHandle" ∧ (parseMethodDescriptor yX9_addsAll.desc).map (fun d => d.parameters.length) = some 0 := by decide +kernel
theorem iX9_addsAll_X9 : ∀ w ∈ wsX90, w ∈ wsX9_addsAll := fun _ h => List.mem_cons_of_mem _ (List.mem_append_right _ (h))
theorem mX9_addsAll_1 : Cond.fieldLink RX9 113 "PracticeSheetsModel" "textLong" "I" ∈ wsX9_addsAll := List.mem_of_getElem? (i := 1) rfl
theorem mX9_addsAll_2 : Cond.fieldLink RX9 7 "PracticeSheetsModel" "all" "[I" ∈ wsX9_addsAll := List.mem_of_getElem? (i := 2) rfl
theorem mX9_addsAll_3 : Cond.fieldLink RX9 37 "PracticeSheetsModel" "text" "[I" ∈ wsX9_addsAll := List.mem_of_getElem? (i := 3) rfl
set_option maxHeartbeats 4000000 in
set_option maxRecDepth 100000 in
theorem qX9_addsAll (l : Launch) (D : va_G) (E : Nat → ClassId) (ad : Nat → Nat → Nat) (L : List (Nat × Nat)) (A : Nat → Prop) (hF : gF E ad L A) (hLm : gLm L) (M0 : gW)  (K : Int32 → gW → Prop) (hw : wX9_addsAll M0 K) : Met l yX9_addsAll wsX9_addsAll rmX9_addsAll (va_Pc [.ref (ad 21 0)] (gPre D E ad L M0)) (gQi D E ad L A K) 0 0 A := by
  refine Met.ofW (cc := cX9_addsAll) (maxL := 5) (ret := (some .boolean)) (by decide) rfl ?_
  intro p e s m args below meth c s₁ B hml hv
  obtain ⟨rfl, hP, hK, hN⟩ := hv
  have hx := B.exec
  have hb := B.bytes
  have hr := B.returns
  have hts := atoms_spec (ws := wsX9_addsAll) B.pre
  have hown : s.vm.findClass RX9 = some m.cls := findClass_of_methodNamed B.named
  have hlocks := B.notSynchronized
  have S : CallFix p m c cX9_addsAll 5 s ([.ref (ad 21 0)] : List Value).toArray wsX9_addsAll RX9 := ⟨hx, hb, hml, hown, hts⟩
  have hS : va_S A s.heap s.heap [] := va_S.rf
  have hl := lv_entry ([.ref (ad 21 0)]) (n := 5) (Nat.le_of_ble_eq_true rfl)
  rw [lg_entry_eq]
  generalize (lg_sl ([.ref (ad 21 0)]) ++ List.replicate (5 - (lg_sl ([.ref (ad 21 0)])).length) Slot.unset).toArray = ls at hl ⊢
  have hl : lv_has ls 5 [(0, .ref (ad 21 0))] := hl
  refine lv_iconst (v := (0 : Int32)) hx hb dX9_addsAll_0 (by decide) ?_
  refine lv_istore_n (lv' := [(1, .int (0 : Int32)), (0, .ref (ad 21 0))]) hx hb dX9_addsAll_1 rfl hl (by decide) rfl (fun ls hl => ?_)
  obtain ⟨n42, hw⟩ := hw
  have hxX9_addsAll_L2_0 : ∀ (M40 : gW) (x1_41 : Int32) (H : Heap) (locs : List Loc) (ls : Array Slot), (K (1 : Int32) M40) → va_P D vwCl (gL E ad L M40) H → va_S A s.heap H locs → lv_has ls 5 [(0, .ref (ad 21 0)), (1, .int x1_41)] → W p l e (headSpec wsX9_addsAll rmX9_addsAll).room s m (([.ref (ad 21 0)] : List Value).toArray) below meth c H locs 0 0 (MQ below (gQi D E ad L A K) ([.ref (ad 21 0)] : List Value).toArray s 0 0 A) (F0 m 128 ls []) := by
    intro M40 x1_41 H locs ls hw hP hS hl
    refine lv_iconst (v := (1 : Int32)) hx hb dX9_addsAll_128 (by decide) ?_
    exact g_zret hx hb hr hlocks (by decide) hw hP hS dX9_addsAll_129
  have hlX9_addsAll_L2 : ∀ (n1 : Nat) (M2 : gW) (x1_3 : Int32) (H : Heap) (locs : List Loc) (ls : Array Slot), wX9_addsAll_L2 K (fun M40 x1_41 => (K (1 : Int32) M40)) n1 M2 x1_3 → va_P D vwCl (gL E ad L M2) H → va_S A s.heap H locs → lv_has ls 5 [(0, .ref (ad 21 0)), (1, .int x1_3)] → W p l e (headSpec wsX9_addsAll rmX9_addsAll).room s m (([.ref (ad 21 0)] : List Value).toArray) below meth c H locs 0 0 (MQ below (gQi D E ad L A K) ([.ref (ad 21 0)] : List Value).toArray s 0 0 A) (F0 m 2 ls []) := by
    intro n1
    induction n1 with
    | zero => intro M2 x1_3 H locs ls hw; exact False.elim hw
    | succ n1 ihn1 =>
      intro M2 x1_3 H locs ls hw hP hS hl
      refine lv_iload_n hx hb dX9_addsAll_2 rfl (lv_at hl 1 rfl) ?_
      refine lv_aload_n hx hb dX9_addsAll_3 rfl (lv_at hl 0 rfl) ?_
      refine g_get (v := .int (M2 21 0 14)) hx hb hts hown hK hP (hLm.h (f := 21) (by decide)) (gC21 _ _ _ _) gcl9 iX9_addsAll_X9 14 (by decide) mX9_addsAll_1 rfl rfl dX9_addsAll_4 ?_
      refine lv_icmp_ge (tgt := 128) hx hb dX9_addsAll_7 (by decide) (fun c4 => ?_) (fun c4 => ?_)
      · have hw := hw.1 c4
        exact hxX9_addsAll_L2_0 _ _ _ _ _ hw hP hS (lv_sub hl [0, 1] rfl)
      · have hw := hw.2 c4
        refine lv_iconst (v := (0 : Int32)) hx hb dX9_addsAll_10 (by decide) ?_
        refine lv_istore_n (lv' := [(2, .int (0 : Int32)), (0, .ref (ad 21 0)), (1, .int x1_3)]) hx hb dX9_addsAll_11 rfl hl (by decide) rfl (fun ls hl => ?_)
        obtain ⟨n39, hw⟩ := hw
        have hxX9_addsAll_L12_0 : ∀ (M11 : gW) (x2_12 : Int32) (H : Heap) (locs : List Loc) (ls : Array Slot), (wX9_isOnList M11 x1_3 x2_12 (fun r14 M13 => ((r14 = 0 → ((vp_in (5 : Int32) 1730) ∧ (((M13 22 0 (5 : Int32).toNatClampNeg) = (20 : Int32) → (K (0 : Int32) M13)) ∧ (¬ ((M13 22 0 (5 : Int32).toNatClampNeg) = (20 : Int32)) → ((vp_in (5 : Int32) 1730) ∧ (∀ y19 : Int32, y19 = ((1410 : Int32) + ((16 : Int32) * (M13 22 0 (5 : Int32).toNatClampNeg))) → ((vp_in y19 1730) ∧ (∀ M22 : gW, M22 = gU M13 22 0 (upd (M13 22 0) y19.toNatClampNeg x2_12) → (∃ n38 : Nat, wX9_addsAll_L74 x1_3 x2_12 y19 (fun M32 x4_33 => ((vp_in (5 : Int32) 1730) ∧ ((vp_in (5 : Int32) 1730) ∧ (∀ M36 : gW, M36 = gU M32 22 0 (upd (M32 22 0) (5 : Int32).toNatClampNeg ((M32 22 0 (5 : Int32).toNatClampNeg) + (1 : Int32))) → (wX9_addsAll_L2 K (fun M40 x1_41 => (K (1 : Int32) M40)) n1 M36 (x1_3 + (x2_12 + (1 : Int32)))))))) n38 M22 (0 : Int32)))))))))) ∧ (¬ (r14 = 0) → (wX9_addsAll_L2 K (fun M40 x1_41 => (K (1 : Int32) M40)) n1 M13 (x1_3 + (x2_12 + (1 : Int32)))))))) → va_P D vwCl (gL E ad L M11) H → va_S A s.heap H locs → lv_has ls 5 [(0, .ref (ad 21 0)), (1, .int x1_3), (2, .int x2_12)] → W p l e (headSpec wsX9_addsAll rmX9_addsAll).room s m (([.ref (ad 21 0)] : List Value).toArray) below meth c H locs 0 0 (MQ below (gQi D E ad L A K) ([.ref (ad 21 0)] : List Value).toArray s 0 0 A) (F0 m 28 ls []) := by
          intro M11 x2_12 H locs ls hw hP hS hl
          refine lv_aload_n hx hb dX9_addsAll_28 rfl (lv_at hl 0 rfl) ?_
          refine lv_iload_n hx hb dX9_addsAll_29 rfl (lv_at hl 1 rfl) ?_
          refine lv_iload_n hx hb dX9_addsAll_30 rfl (lv_at hl 2 rfl) ?_
          refine g_Vi (As := [.int x1_3, .int x2_12]) (rest := []) S hK hN hP hS (qX9_isOnList l D E ad L A hF hLm M11 x1_3 x2_12  _ hw) (cwV 2 hts gX9_addsAll_X9_isOnList rfl rfl rfl eX9_isOnList ⟨Nat.le_of_ble_eq_true rfl, Nat.le_of_ble_eq_true rfl⟩) (hLm.h (f := 21) (by decide)) (gC21 _ _ _ _) gcl9 rfl rfl rfl hl.1 (Nat.le_of_ble_eq_true rfl) ⟨Nat.zero_le _, Nat.zero_le _⟩ dX9_addsAll_31 (fun r14 M13 H locs hw hP hS => ?_)
          refine lv_if_ne (tgt := 119) hx hb dX9_addsAll_34 (by decide) (fun c15 => ?_) (fun c15 => ?_)
          · have hw := hw.2 c15
            refine lv_iload_n hx hb dX9_addsAll_119 rfl (lv_at hl 1 rfl) ?_
            refine lv_iload_n hx hb dX9_addsAll_120 rfl (lv_at hl 2 rfl) ?_
            refine lv_iconst (v := (1 : Int32)) hx hb dX9_addsAll_121 (by decide) ?_
            refine lv_iadd hx hb dX9_addsAll_122 ?_
            refine lv_iadd hx hb dX9_addsAll_123 ?_
            refine lv_istore_n (lv' := [(1, .int (x1_3 + (x2_12 + (1 : Int32)))), (0, .ref (ad 21 0)), (2, .int x2_12)]) hx hb dX9_addsAll_124 rfl hl (by decide) rfl (fun ls hl => ?_)
            refine lv_goto (tgt := 2) hx hb dX9_addsAll_125 (by decide) ?_
            exact ihn1 _ _ _ _ _ hw hP hS (lv_sub hl [1, 0] rfl)
          · have hw := hw.1 c15
            refine lv_aload_n hx hb dX9_addsAll_37 rfl (lv_at hl 0 rfl) ?_
            refine g_get (v := .ref (ad 22 0)) hx hb hts hown hK hP (hLm.h (f := 21) (by decide)) (gC21 _ _ _ _) gcl9 iX9_addsAll_X9 0 (by decide) mX9_addsAll_2 rfl rfl dX9_addsAll_38 ?_
            refine lv_iconst (v := (5 : Int32)) hx hb dX9_addsAll_41 (by decide) ?_
            have hb16 := hw.1
            have hw := hw.2
            refine g_iald (n := 1730) hx hb hK hP (hLm.h (f := 22) (by decide)) rfl hb16 dX9_addsAll_42 ?_
            refine lv_bipush (v := (20 : Int32)) hx hb dX9_addsAll_43 (by decide) ?_
            refine lv_icmp_ne (tgt := 50) hx hb dX9_addsAll_45 (by decide) (fun c17 => ?_) (fun c17 => ?_)
            · have hw := hw.2 c17
              refine lv_sipush (v := (1410 : Int32)) hx hb dX9_addsAll_50 (by decide) ?_
              refine lv_bipush (v := (16 : Int32)) hx hb dX9_addsAll_53 (by decide) ?_
              refine lv_aload_n hx hb dX9_addsAll_55 rfl (lv_at hl 0 rfl) ?_
              refine g_get (v := .ref (ad 22 0)) hx hb hts hown hK hP (hLm.h (f := 21) (by decide)) (gC21 _ _ _ _) gcl9 iX9_addsAll_X9 0 (by decide) mX9_addsAll_2 rfl rfl dX9_addsAll_56 ?_
              refine lv_iconst (v := (5 : Int32)) hx hb dX9_addsAll_59 (by decide) ?_
              have hb18 := hw.1
              have hw := hw.2
              refine g_iald (n := 1730) hx hb hK hP (hLm.h (f := 22) (by decide)) rfl hb18 dX9_addsAll_60 ?_
              refine lv_imul hx hb dX9_addsAll_61 ?_
              refine lv_iadd hx hb dX9_addsAll_62 ?_
              refine lv_topi (fun y19 e20 => ?_)
              have hw := hw y19 e20
              refine lv_istore_n (lv' := [(3, .int y19), (0, .ref (ad 21 0)), (1, .int x1_3), (2, .int x2_12)]) hx hb dX9_addsAll_63 rfl hl (by decide) rfl (fun ls hl => ?_)
              refine lv_aload_n hx hb dX9_addsAll_64 rfl (lv_at hl 1 rfl) ?_
              refine g_get (v := .ref (ad 22 0)) hx hb hts hown hK hP (hLm.h (f := 21) (by decide)) (gC21 _ _ _ _) gcl9 iX9_addsAll_X9 0 (by decide) mX9_addsAll_2 rfl rfl dX9_addsAll_65 ?_
              refine lv_iload_n hx hb dX9_addsAll_68 rfl (lv_at hl 0 rfl) ?_
              refine lv_iload_n hx hb dX9_addsAll_69 rfl (lv_at hl 3 rfl) ?_
              have hb21 := hw.1
              have hw := hw.2
              refine g_iast (n := 1730) hx hb hF hK hP hS (hLm.h (f := 22) (by decide)) (fun _ => rfl) hb21 dX9_addsAll_70 (fun M22 e23 H locs hP hS => ?_)
              have hw := hw M22 e23
              refine lv_iconst (v := (0 : Int32)) hx hb dX9_addsAll_71 (by decide) ?_
              refine lv_istore (lv' := [(4, .int (0 : Int32)), (3, .int y19), (0, .ref (ad 21 0)), (1, .int x1_3), (2, .int x2_12)]) hx hb dX9_addsAll_72 hl (by decide) rfl (fun ls hl => ?_)
              obtain ⟨n38, hw⟩ := hw
              have hxX9_addsAll_L74_0 : ∀ (M32 : gW) (x4_33 : Int32) (H : Heap) (locs : List Loc) (ls : Array Slot), ((vp_in (5 : Int32) 1730) ∧ ((vp_in (5 : Int32) 1730) ∧ (∀ M36 : gW, M36 = gU M32 22 0 (upd (M32 22 0) (5 : Int32).toNatClampNeg ((M32 22 0 (5 : Int32).toNatClampNeg) + (1 : Int32))) → (wX9_addsAll_L2 K (fun M40 x1_41 => (K (1 : Int32) M40)) n1 M36 (x1_3 + (x2_12 + (1 : Int32))))))) → va_P D vwCl (gL E ad L M32) H → va_S A s.heap H locs → lv_has ls 5 [(0, .ref (ad 21 0)), (1, .int x1_3), (2, .int x2_12), (3, .int y19), (4, .int x4_33)] → W p l e (headSpec wsX9_addsAll rmX9_addsAll).room s m (([.ref (ad 21 0)] : List Value).toArray) below meth c H locs 0 0 (MQ below (gQi D E ad L A K) ([.ref (ad 21 0)] : List Value).toArray s 0 0 A) (F0 m 109 ls []) := by
                intro M32 x4_33 H locs ls hw hP hS hl
                refine lv_aload_n hx hb dX9_addsAll_109 rfl (lv_at hl 0 rfl) ?_
                refine g_get (v := .ref (ad 22 0)) hx hb hts hown hK hP (hLm.h (f := 21) (by decide)) (gC21 _ _ _ _) gcl9 iX9_addsAll_X9 0 (by decide) mX9_addsAll_2 rfl rfl dX9_addsAll_110 ?_
                refine lv_iconst (v := (5 : Int32)) hx hb dX9_addsAll_113 (by decide) ?_
                refine lv_dup2_11 hx hb dX9_addsAll_114 rfl rfl ?_
                have hb34 := hw.1
                have hw := hw.2
                refine g_iald (n := 1730) hx hb hK hP (hLm.h (f := 22) (by decide)) rfl hb34 dX9_addsAll_115 ?_
                refine lv_iconst (v := (1 : Int32)) hx hb dX9_addsAll_116 (by decide) ?_
                refine lv_iadd hx hb dX9_addsAll_117 ?_
                have hb35 := hw.1
                have hw := hw.2
                refine g_iast (n := 1730) hx hb hF hK hP hS (hLm.h (f := 22) (by decide)) (fun _ => rfl) hb35 dX9_addsAll_118 (fun M36 e37 H locs hP hS => ?_)
                have hw := hw M36 e37
                refine lv_iload_n hx hb dX9_addsAll_119 rfl (lv_at hl 1 rfl) ?_
                refine lv_iload_n hx hb dX9_addsAll_120 rfl (lv_at hl 2 rfl) ?_
                refine lv_iconst (v := (1 : Int32)) hx hb dX9_addsAll_121 (by decide) ?_
                refine lv_iadd hx hb dX9_addsAll_122 ?_
                refine lv_iadd hx hb dX9_addsAll_123 ?_
                refine lv_istore_n (lv' := [(1, .int (x1_3 + (x2_12 + (1 : Int32)))), (0, .ref (ad 21 0)), (2, .int x2_12), (3, .int y19), (4, .int x4_33)]) hx hb dX9_addsAll_124 rfl hl (by decide) rfl (fun ls hl => ?_)
                refine lv_goto (tgt := 2) hx hb dX9_addsAll_125 (by decide) ?_
                exact ihn1 _ _ _ _ _ hw hP hS (lv_sub hl [1, 0] rfl)
              have hlX9_addsAll_L74 : ∀ (n24 : Nat) (M25 : gW) (x4_26 : Int32) (H : Heap) (locs : List Loc) (ls : Array Slot), wX9_addsAll_L74 x1_3 x2_12 y19 (fun M32 x4_33 => ((vp_in (5 : Int32) 1730) ∧ ((vp_in (5 : Int32) 1730) ∧ (∀ M36 : gW, M36 = gU M32 22 0 (upd (M32 22 0) (5 : Int32).toNatClampNeg ((M32 22 0 (5 : Int32).toNatClampNeg) + (1 : Int32))) → (wX9_addsAll_L2 K (fun M40 x1_41 => (K (1 : Int32) M40)) n1 M36 (x1_3 + (x2_12 + (1 : Int32)))))))) n24 M25 x4_26 → va_P D vwCl (gL E ad L M25) H → va_S A s.heap H locs → lv_has ls 5 [(0, .ref (ad 21 0)), (1, .int x1_3), (2, .int x2_12), (3, .int y19), (4, .int x4_26)] → W p l e (headSpec wsX9_addsAll rmX9_addsAll).room s m (([.ref (ad 21 0)] : List Value).toArray) below meth c H locs 0 0 (MQ below (gQi D E ad L A K) ([.ref (ad 21 0)] : List Value).toArray s 0 0 A) (F0 m 74 ls []) := by
                intro n24
                induction n24 with
                | zero => intro M25 x4_26 H locs ls hw; exact False.elim hw
                | succ n24 ihn24 =>
                  intro M25 x4_26 H locs ls hw hP hS hl
                  refine lv_iload hx hb dX9_addsAll_74 (lv_at hl 4 rfl) ?_
                  refine lv_iload_n hx hb dX9_addsAll_76 rfl (lv_at hl 2 rfl) ?_
                  refine lv_icmp_ge (tgt := 109) hx hb dX9_addsAll_77 (by decide) (fun c27 => ?_) (fun c27 => ?_)
                  · have hw := hw.1 c27
                    exact hxX9_addsAll_L74_0 _ _ _ _ _ hw hP hS (lv_sub hl [0, 1, 2, 3, 4] rfl)
                  · have hw := hw.2 c27
                    refine lv_aload_n hx hb dX9_addsAll_80 rfl (lv_at hl 0 rfl) ?_
                    refine g_get (v := .ref (ad 22 0)) hx hb hts hown hK hP (hLm.h (f := 21) (by decide)) (gC21 _ _ _ _) gcl9 iX9_addsAll_X9 0 (by decide) mX9_addsAll_2 rfl rfl dX9_addsAll_81 ?_
                    refine lv_iload_n hx hb dX9_addsAll_84 rfl (lv_at hl 3 rfl) ?_
                    refine lv_iconst (v := (1 : Int32)) hx hb dX9_addsAll_85 (by decide) ?_
                    refine lv_iadd hx hb dX9_addsAll_86 ?_
                    refine lv_iload hx hb dX9_addsAll_87 (lv_at hl 4 rfl) ?_
                    refine lv_iadd hx hb dX9_addsAll_89 ?_
                    refine lv_aload_n hx hb dX9_addsAll_90 rfl (lv_at hl 0 rfl) ?_
                    refine g_get (v := .ref (ad 22 9)) hx hb hts hown hK hP (hLm.h (f := 21) (by decide)) (gC21 _ _ _ _) gcl9 iX9_addsAll_X9 13 (by decide) mX9_addsAll_3 rfl rfl dX9_addsAll_91 ?_
                    refine lv_iload_n hx hb dX9_addsAll_94 rfl (lv_at hl 1 rfl) ?_
                    refine lv_iload hx hb dX9_addsAll_95 (lv_at hl 4 rfl) ?_
                    refine lv_iadd hx hb dX9_addsAll_97 ?_
                    have hb28 := hw.1
                    have hw := hw.2
                    refine g_iald (n := 60) hx hb hK hP (hLm.h (f := 22) (by decide)) rfl hb28 dX9_addsAll_98 ?_
                    refine lv_bipush (v := (97 : Int32)) hx hb dX9_addsAll_99 (by decide) ?_
                    refine lv_isub hx hb dX9_addsAll_101 ?_
                    have hb29 := hw.1
                    have hw := hw.2
                    refine g_iast (n := 1730) hx hb hF hK hP hS (hLm.h (f := 22) (by decide)) (fun _ => rfl) hb29 dX9_addsAll_102 (fun M30 e31 H locs hP hS => ?_)
                    have hw := hw M30 e31
                    refine lv_iinc (v := (x4_26 + (1 : Int32))) (lv' := [(4, .int (x4_26 + (1 : Int32))), (0, .ref (ad 21 0)), (1, .int x1_3), (2, .int x2_12), (3, .int y19)]) hx hb dX9_addsAll_103 hl (k := 4) rfl rfl (by decide) rfl (fun ls hl => ?_)
                    refine lv_goto (tgt := 74) hx hb dX9_addsAll_106 (by decide) ?_
                    exact ihn24 _ _ _ _ _ hw hP hS (lv_sub hl [1, 2, 3, 4, 0] rfl)
              exact hlX9_addsAll_L74 n38 _ _ _ _ _ hw hP hS (lv_sub hl [2, 3, 4, 1, 0] rfl)
            · have hw := hw.1 c17
              refine lv_iconst (v := (0 : Int32)) hx hb dX9_addsAll_48 (by decide) ?_
              exact g_zret hx hb hr hlocks (by decide) hw hP hS dX9_addsAll_49
        have hlX9_addsAll_L12 : ∀ (n5 : Nat) (M6 : gW) (x2_7 : Int32) (H : Heap) (locs : List Loc) (ls : Array Slot), wX9_addsAll_L12 x1_3 (fun M11 x2_12 => (wX9_isOnList M11 x1_3 x2_12 (fun r14 M13 => ((r14 = 0 → ((vp_in (5 : Int32) 1730) ∧ (((M13 22 0 (5 : Int32).toNatClampNeg) = (20 : Int32) → (K (0 : Int32) M13)) ∧ (¬ ((M13 22 0 (5 : Int32).toNatClampNeg) = (20 : Int32)) → ((vp_in (5 : Int32) 1730) ∧ (∀ y19 : Int32, y19 = ((1410 : Int32) + ((16 : Int32) * (M13 22 0 (5 : Int32).toNatClampNeg))) → ((vp_in y19 1730) ∧ (∀ M22 : gW, M22 = gU M13 22 0 (upd (M13 22 0) y19.toNatClampNeg x2_12) → (∃ n38 : Nat, wX9_addsAll_L74 x1_3 x2_12 y19 (fun M32 x4_33 => ((vp_in (5 : Int32) 1730) ∧ ((vp_in (5 : Int32) 1730) ∧ (∀ M36 : gW, M36 = gU M32 22 0 (upd (M32 22 0) (5 : Int32).toNatClampNeg ((M32 22 0 (5 : Int32).toNatClampNeg) + (1 : Int32))) → (wX9_addsAll_L2 K (fun M40 x1_41 => (K (1 : Int32) M40)) n1 M36 (x1_3 + (x2_12 + (1 : Int32)))))))) n38 M22 (0 : Int32)))))))))) ∧ (¬ (r14 = 0) → (wX9_addsAll_L2 K (fun M40 x1_41 => (K (1 : Int32) M40)) n1 M13 (x1_3 + (x2_12 + (1 : Int32))))))))) n5 M6 x2_7 → va_P D vwCl (gL E ad L M6) H → va_S A s.heap H locs → lv_has ls 5 [(0, .ref (ad 21 0)), (1, .int x1_3), (2, .int x2_7)] → W p l e (headSpec wsX9_addsAll rmX9_addsAll).room s m (([.ref (ad 21 0)] : List Value).toArray) below meth c H locs 0 0 (MQ below (gQi D E ad L A K) ([.ref (ad 21 0)] : List Value).toArray s 0 0 A) (F0 m 12 ls []) := by
          intro n5
          induction n5 with
          | zero => intro M6 x2_7 H locs ls hw; exact False.elim hw
          | succ n5 ihn5 =>
            intro M6 x2_7 H locs ls hw hP hS hl
            refine lv_aload_n hx hb dX9_addsAll_12 rfl (lv_at hl 0 rfl) ?_
            refine lv_iload_n hx hb dX9_addsAll_13 rfl (lv_at hl 1 rfl) ?_
            refine lv_iload_n hx hb dX9_addsAll_14 rfl (lv_at hl 2 rfl) ?_
            refine lv_iadd hx hb dX9_addsAll_15 ?_
            refine g_Vi (As := [.int (x1_3 + x2_7)]) (rest := []) S hK hN hP hS (qX9_isLetter l D E ad L A hF hLm M6 (x1_3 + x2_7)  _ hw) (cwV 1 hts gX9_addsAll_X9_isLetter rfl rfl rfl eX9_isLetter ⟨Nat.le_of_ble_eq_true rfl, Nat.le_of_ble_eq_true rfl⟩) (hLm.h (f := 21) (by decide)) (gC21 _ _ _ _) gcl9 rfl rfl rfl hl.1 (Nat.le_of_ble_eq_true rfl) ⟨Nat.zero_le _, Nat.zero_le _⟩ dX9_addsAll_16 (fun r9 M8 H locs hw hP hS => ?_)
            refine lv_if_eq (tgt := 28) hx hb dX9_addsAll_19 (by decide) (fun c10 => ?_) (fun c10 => ?_)
            · have hw := hw.1 c10
              exact hxX9_addsAll_L12_0 _ _ _ _ _ hw hP hS (lv_sub hl [0, 1, 2] rfl)
            · have hw := hw.2 c10
              refine lv_iinc (v := (x2_7 + (1 : Int32))) (lv' := [(2, .int (x2_7 + (1 : Int32))), (0, .ref (ad 21 0)), (1, .int x1_3)]) hx hb dX9_addsAll_22 hl (k := 2) rfl rfl (by decide) rfl (fun ls hl => ?_)
              refine lv_goto (tgt := 12) hx hb dX9_addsAll_25 (by decide) ?_
              exact ihn5 _ _ _ _ _ hw hP hS (lv_sub hl [1, 2, 0] rfl)
        exact hlX9_addsAll_L12 n39 _ _ _ _ _ hw hP hS (lv_sub hl [1, 2, 0] rfl)
  exact hlX9_addsAll_L2 n42 _ _ _ _ _ hw hP hS (lv_sub hl [1, 0] rfl)
abbrev rmX9_addWords : Room := { frames := 3, cells := 0, slots := 0, locals := 72 }
theorem eX9_addWords : yX9_addWords.cls = RX9 ∧ yX9_addWords.cls ≠ "java/lang/invoke/MethodHandle" ∧ yX9_addWords.cls ≠ "java/lang/invoke/VarHandle" ∧ (parseMethodDescriptor yX9_addWords.desc).map (fun d => d.parameters.length) = some 0 := by decide +kernel
theorem iX9_addWords_X9 : ∀ w ∈ wsX90, w ∈ wsX9_addWords := fun _ h => List.mem_cons_of_mem _ (List.mem_append_right _ (h))
theorem mX9_addWords_2 : Cond.fieldLink RX9 7 "PracticeSheetsModel" "all" "[I" ∈ wsX9_addWords := List.mem_of_getElem? (i := 2) rfl
theorem mX9_addWords_1 : Cond.fieldLink RX9 13 "PracticeSheetsModel" "kept" "[I" ∈ wsX9_addWords := List.mem_of_getElem? (i := 1) rfl
set_option maxHeartbeats 4000000 in
set_option maxRecDepth 100000 in
theorem qX9_addWords (l : Launch) (D : va_G) (E : Nat → ClassId) (ad : Nat → Nat → Nat) (L : List (Nat × Nat)) (A : Nat → Prop) (hF : gF E ad L A) (hLm : gLm L) (M0 : gW)  (K : Int32 → gW → Prop) (hw : wX9_addWords M0 K) : Met l yX9_addWords wsX9_addWords rmX9_addWords (va_Pc [.ref (ad 21 0)] (gPre D E ad L M0)) (gQi D E ad L A K) 0 0 A := by
  refine Met.ofW (cc := cX9_addWords) (maxL := 3) (ret := (some .int)) (by decide) rfl ?_
  intro p e s m args below meth c s₁ B hml hv
  obtain ⟨rfl, hP, hK, hN⟩ := hv
  have hx := B.exec
  have hb := B.bytes
  have hr := B.returns
  have hts := atoms_spec (ws := wsX9_addWords) B.pre
  have hown : s.vm.findClass RX9 = some m.cls := findClass_of_methodNamed B.named
  have hlocks := B.notSynchronized
  have S : CallFix p m c cX9_addWords 3 s ([.ref (ad 21 0)] : List Value).toArray wsX9_addWords RX9 := ⟨hx, hb, hml, hown, hts⟩
  have hS : va_S A s.heap s.heap [] := va_S.rf
  have hl := lv_entry ([.ref (ad 21 0)]) (n := 3) (Nat.le_of_ble_eq_true rfl)
  rw [lg_entry_eq]
  generalize (lg_sl ([.ref (ad 21 0)]) ++ List.replicate (3 - (lg_sl ([.ref (ad 21 0)])).length) Slot.unset).toArray = ls at hl ⊢
  have hl : lv_has ls 3 [(0, .ref (ad 21 0))] := hl
  refine lv_aload_n hx hb dX9_addWords_0 rfl (lv_at hl 0 rfl) ?_
  refine g_Vi (As := []) (rest := []) S hK hN hP hS (qX9_faultOfWords l D E ad L A hF hLm M0  _ hw) (cwV 0 hts gX9_addWords_X9_faultOfWords rfl rfl rfl eX9_faultOfWords ⟨Nat.le_of_ble_eq_true rfl, Nat.le_of_ble_eq_true rfl⟩) (hLm.h (f := 21) (by decide)) (gC21 _ _ _ _) gcl9 rfl rfl rfl hl.1 (Nat.le_of_ble_eq_true rfl) ⟨Nat.zero_le _, Nat.zero_le _⟩ dX9_addWords_1 (fun r2 M1 H locs hw hP hS => ?_)
  refine lv_istore_n (lv' := [(1, .int r2), (0, .ref (ad 21 0))]) hx hb dX9_addWords_4 rfl hl (by decide) rfl (fun ls hl => ?_)
  refine lv_iload_n hx hb dX9_addWords_5 rfl (lv_at hl 0 rfl) ?_
  refine lv_bipush (v := (-5 : Int32)) hx hb dX9_addWords_6 (by decide) ?_
  refine lv_icmp_eq (tgt := 16) hx hb dX9_addWords_8 (by decide) (fun c3 => ?_) (fun c3 => ?_)
  · have hw := hw.1 c3
    refine lv_aload_n hx hb dX9_addWords_16 rfl (lv_at hl 1 rfl) ?_
    refine g_Vv (As := []) (rest := []) S hK hN hP hS (qX9_remember l D E ad L A hF hLm M1  _ hw) (cwV 0 hts gX9_addWords_X9_remember rfl rfl rfl eX9_remember ⟨Nat.le_of_ble_eq_true rfl, Nat.le_of_ble_eq_true rfl⟩) (hLm.h (f := 21) (by decide)) (gC21 _ _ _ _) gcl9 rfl rfl rfl hl.1 (Nat.le_of_ble_eq_true rfl) ⟨Nat.zero_le _, Nat.zero_le _⟩ dX9_addWords_17 (fun M4 H locs hw hP hS => ?_)
    refine lv_aload_n hx hb dX9_addWords_20 rfl (lv_at hl 1 rfl) ?_
    refine g_Vi (As := []) (rest := []) S hK hN hP hS (qX9_addsAll l D E ad L A hF hLm M4  _ hw) (cwV 0 hts gX9_addWords_X9_addsAll rfl rfl rfl eX9_addsAll ⟨Nat.le_of_ble_eq_true rfl, Nat.le_of_ble_eq_true rfl⟩) (hLm.h (f := 21) (by decide)) (gC21 _ _ _ _) gcl9 rfl rfl rfl hl.1 (Nat.le_of_ble_eq_true rfl) ⟨Nat.zero_le _, Nat.zero_le _⟩ dX9_addWords_21 (fun r6 M5 H locs hw hP hS => ?_)
    refine lv_if_ne (tgt := 41) hx hb dX9_addWords_24 (by decide) (fun c7 => ?_) (fun c7 => ?_)
    · have hw := hw.2 c7
      refine lv_aload_n hx hb dX9_addWords_41 rfl (lv_at hl 1 rfl) ?_
      refine g_get (v := .ref (ad 22 0)) hx hb hts hown hK hP (hLm.h (f := 21) (by decide)) (gC21 _ _ _ _) gcl9 iX9_addWords_X9 0 (by decide) mX9_addWords_2 rfl rfl dX9_addWords_42 ?_
      refine lv_iconst (v := (5 : Int32)) hx hb dX9_addWords_45 (by decide) ?_
      have hb8 := hw.1
      have hw := hw.2
      refine g_iald (n := 1730) hx hb hK hP (hLm.h (f := 22) (by decide)) rfl hb8 dX9_addWords_46 ?_
      refine lv_aload_n hx hb dX9_addWords_47 rfl (lv_at hl 1 rfl) ?_
      refine g_get (v := .ref (ad 22 1)) hx hb hts hown hK hP (hLm.h (f := 21) (by decide)) (gC21 _ _ _ _) gcl9 iX9_addWords_X9 1 (by decide) mX9_addWords_1 rfl rfl dX9_addWords_48 ?_
      refine lv_iconst (v := (5 : Int32)) hx hb dX9_addWords_51 (by decide) ?_
      have hb9 := hw.1
      have hw := hw.2
      refine g_iald (n := 1730) hx hb hK hP (hLm.h (f := 22) (by decide)) rfl hb9 dX9_addWords_52 ?_
      refine lv_isub hx hb dX9_addWords_53 ?_
      refine lv_topi (fun y10 e11 => ?_)
      have hw := hw y10 e11
      refine lv_istore_n (lv' := [(2, .int y10), (1, .int r2), (0, .ref (ad 21 0))]) hx hb dX9_addWords_54 rfl hl (by decide) rfl (fun ls hl => ?_)
      refine lv_iload_n hx hb dX9_addWords_55 rfl (lv_at hl 0 rfl) ?_
      refine lv_if_ne (tgt := 64) hx hb dX9_addWords_56 (by decide) (fun c12 => ?_) (fun c12 => ?_)
      · have hw := hw.2 c12
        refine lv_aload_n hx hb dX9_addWords_64 rfl (lv_at hl 2 rfl) ?_
        refine lv_iload_n hx hb dX9_addWords_65 rfl (lv_at hl 0 rfl) ?_
        refine g_Vi (As := [.int y10]) (rest := []) S hK hN hP hS (qX9_acted l D E ad L A hF hLm M5 y10  _ hw) (cwV 1 hts gX9_addWords_X9_acted rfl rfl rfl eX9_acted ⟨Nat.le_of_ble_eq_true rfl, Nat.le_of_ble_eq_true rfl⟩) (hLm.h (f := 21) (by decide)) (gC21 _ _ _ _) gcl9 rfl rfl rfl hl.1 (Nat.le_of_ble_eq_true rfl) ⟨Nat.zero_le _, Nat.zero_le _⟩ dX9_addWords_66 (fun r14 M13 H locs hw hP hS => ?_)
        exact g_iret hx hb hr hlocks hw hP hS dX9_addWords_69
      · have hw := hw.1 c12
        refine lv_bipush (v := (-5 : Int32)) hx hb dX9_addWords_59 (by decide) ?_
        refine lv_goto (tgt := 69) hx hb dX9_addWords_61 (by decide) ?_
        exact g_iret hx hb hr hlocks hw hP hS dX9_addWords_69
    · have hw := hw.1 c7
      refine lv_aload_n hx hb dX9_addWords_27 rfl (lv_at hl 1 rfl) ?_
      refine g_get (v := .ref (ad 22 1)) hx hb hts hown hK hP (hLm.h (f := 21) (by decide)) (gC21 _ _ _ _) gcl9 iX9_addWords_X9 1 (by decide) mX9_addWords_1 rfl rfl dX9_addWords_28 ?_
      refine lv_aload_n hx hb dX9_addWords_31 rfl (lv_at hl 1 rfl) ?_
      refine g_get (v := .ref (ad 22 0)) hx hb hts hown hK hP (hLm.h (f := 21) (by decide)) (gC21 _ _ _ _) gcl9 iX9_addWords_X9 0 (by decide) mX9_addWords_2 rfl rfl dX9_addWords_32 ?_
      refine g_Sv (As := [.ref (ad 22 1), .ref (ad 22 0)]) (rest := []) S hK hN hP hS (qX9_copy l D E ad L A hF hLm M5 1 0 (by decide) (by decide) _ hw) (va_cwS 2 hts gX9_addWords_X9_copy rfl rfl rfl eX9_copy.2 ⟨Nat.le_of_ble_eq_true rfl, Nat.le_of_ble_eq_true rfl⟩) rfl rfl hl.1 (Nat.le_of_ble_eq_true rfl) ⟨Nat.zero_le _, Nat.zero_le _⟩ dX9_addWords_35 (fun M15 H locs hw hP hS => ?_)
      refine lv_bipush (v := (-3 : Int32)) hx hb dX9_addWords_38 (by decide) ?_
      exact g_iret hx hb hr hlocks hw hP hS dX9_addWords_40
  · have hw := hw.2 c3
    refine lv_bipush (v := (-100 : Int32)) hx hb dX9_addWords_11 (by decide) ?_
    refine lv_iload_n hx hb dX9_addWords_13 rfl (lv_at hl 0 rfl) ?_
    refine lv_isub hx hb dX9_addWords_14 ?_
    exact g_iret hx hb hr hlocks hw hP hS dX9_addWords_15
abbrev rmX9_removeWord : Room := { frames := 2, cells := 0, slots := 0, locals := 46 }
theorem eX9_removeWord : yX9_removeWord.cls = RX9 ∧ yX9_removeWord.cls ≠ "java/lang/invoke/MethodHandle" ∧ yX9_removeWord.cls ≠ "java/lang/invoke/VarHandle" ∧ (parseMethodDescriptor yX9_removeWord.desc).map (fun d => d.parameters.length) = some 1 := by decide +kernel
theorem iX9_removeWord_X9 : ∀ w ∈ wsX90, w ∈ wsX9_removeWord := fun _ h => List.mem_cons_of_mem _ (List.mem_append_right _ (h))
theorem mX9_removeWord_1 : Cond.fieldLink RX9 7 "PracticeSheetsModel" "all" "[I" ∈ wsX9_removeWord := List.mem_of_getElem? (i := 1) rfl
set_option maxHeartbeats 4000000 in
set_option maxRecDepth 100000 in
theorem qX9_removeWord (l : Launch) (D : va_G) (E : Nat → ClassId) (ad : Nat → Nat → Nat) (L : List (Nat × Nat)) (A : Nat → Prop) (hF : gF E ad L A) (hLm : gLm L) (M0 : gW) (a1 : Int32)  (K : Int32 → gW → Prop) (hw : wX9_removeWord M0 a1 K) : Met l yX9_removeWord wsX9_removeWord rmX9_removeWord (va_Pc [.ref (ad 21 0), .int a1] (gPre D E ad L M0)) (gQi D E ad L A K) 0 0 A := by
  refine Met.ofW (cc := cX9_removeWord) (maxL := 3) (ret := (some .int)) (by decide) rfl ?_
  intro p e s m args below meth c s₁ B hml hv
  obtain ⟨rfl, hP, hK, hN⟩ := hv
  have hx := B.exec
  have hb := B.bytes
  have hr := B.returns
  have hts := atoms_spec (ws := wsX9_removeWord) B.pre
  have hown : s.vm.findClass RX9 = some m.cls := findClass_of_methodNamed B.named
  have hlocks := B.notSynchronized
  have S : CallFix p m c cX9_removeWord 3 s ([.ref (ad 21 0), .int a1] : List Value).toArray wsX9_removeWord RX9 := ⟨hx, hb, hml, hown, hts⟩
  have hS : va_S A s.heap s.heap [] := va_S.rf
  have hl := lv_entry ([.ref (ad 21 0), .int a1]) (n := 3) (Nat.le_of_ble_eq_true rfl)
  rw [lg_entry_eq]
  generalize (lg_sl ([.ref (ad 21 0), .int a1]) ++ List.replicate (3 - (lg_sl ([.ref (ad 21 0), .int a1])).length) Slot.unset).toArray = ls at hl ⊢
  have hl : lv_has ls 3 [(0, .ref (ad 21 0)), (1, .int a1)] := hl
  refine lv_aload_n hx hb dX9_removeWord_0 rfl (lv_at hl 0 rfl) ?_
  refine lv_iload_n hx hb dX9_removeWord_1 rfl (lv_at hl 1 rfl) ?_
  refine g_Vi (As := [.int a1]) (rest := []) S hK hN hP hS (qX9_isWord l D E ad L A hF hLm M0 a1  _ hw) (cwV 1 hts gX9_removeWord_X9_isWord rfl rfl rfl eX9_isWord ⟨Nat.le_of_ble_eq_true rfl, Nat.le_of_ble_eq_true rfl⟩) (hLm.h (f := 21) (by decide)) (gC21 _ _ _ _) gcl9 rfl rfl rfl hl.1 (Nat.le_of_ble_eq_true rfl) ⟨Nat.zero_le _, Nat.zero_le _⟩ dX9_removeWord_2 (fun r2 M1 H locs hw hP hS => ?_)
  refine lv_if_ne (tgt := 10) hx hb dX9_removeWord_5 (by decide) (fun c3 => ?_) (fun c3 => ?_)
  · have hw := hw.2 c3
    refine lv_aload_n hx hb dX9_removeWord_10 rfl (lv_at hl 0 rfl) ?_
    refine g_Vv (As := []) (rest := []) S hK hN hP hS (qX9_remember l D E ad L A hF hLm M1  _ hw) (cwV 0 hts gX9_removeWord_X9_remember rfl rfl rfl eX9_remember ⟨Nat.le_of_ble_eq_true rfl, Nat.le_of_ble_eq_true rfl⟩) (hLm.h (f := 21) (by decide)) (gC21 _ _ _ _) gcl9 rfl rfl rfl hl.1 (Nat.le_of_ble_eq_true rfl) ⟨Nat.zero_le _, Nat.zero_le _⟩ dX9_removeWord_11 (fun M4 H locs hw hP hS => ?_)
    refine lv_aload_n hx hb dX9_removeWord_14 rfl (lv_at hl 0 rfl) ?_
    refine g_get (v := .ref (ad 22 0)) hx hb hts hown hK hP (hLm.h (f := 21) (by decide)) (gC21 _ _ _ _) gcl9 iX9_removeWord_X9 0 (by decide) mX9_removeWord_1 rfl rfl dX9_removeWord_15 ?_
    refine lv_iconst (v := (5 : Int32)) hx hb dX9_removeWord_18 (by decide) ?_
    refine lv_dup2_11 hx hb dX9_removeWord_19 rfl rfl ?_
    have hb5 := hw.1
    have hw := hw.2
    refine g_iald (n := 1730) hx hb hK hP (hLm.h (f := 22) (by decide)) rfl hb5 dX9_removeWord_20 ?_
    refine lv_iconst (v := (1 : Int32)) hx hb dX9_removeWord_21 (by decide) ?_
    refine lv_isub hx hb dX9_removeWord_22 ?_
    have hb6 := hw.1
    have hw := hw.2
    refine g_iast (n := 1730) hx hb hF hK hP hS (hLm.h (f := 22) (by decide)) (fun _ => rfl) hb6 dX9_removeWord_23 (fun M7 e8 H locs hP hS => ?_)
    have hw := hw M7 e8
    refine lv_sipush (v := (1410 : Int32)) hx hb dX9_removeWord_24 (by decide) ?_
    refine lv_bipush (v := (16 : Int32)) hx hb dX9_removeWord_27 (by decide) ?_
    refine lv_iload_n hx hb dX9_removeWord_29 rfl (lv_at hl 1 rfl) ?_
    refine lv_imul hx hb dX9_removeWord_30 ?_
    refine lv_iadd hx hb dX9_removeWord_31 ?_
    refine lv_istore_n (lv' := [(2, .int ((1410 : Int32) + ((16 : Int32) * a1))), (0, .ref (ad 21 0)), (1, .int a1)]) hx hb dX9_removeWord_32 rfl hl (by decide) rfl (fun ls hl => ?_)
    obtain ⟨n23, hw⟩ := hw
    have hxX9_removeWord_L33_0 : ∀ (M18 : gW) (x2_19 : Int32) (H : Heap) (locs : List Loc) (ls : Array Slot), ((vp_in (5 : Int32) 1730) ∧ (wX9_acted M18 (M18 22 0 (5 : Int32).toNatClampNeg) (fun r22 M21 => (K r22 M21)))) → va_P D vwCl (gL E ad L M18) H → va_S A s.heap H locs → lv_has ls 3 [(0, .ref (ad 21 0)), (1, .int a1), (2, .int x2_19)] → W p l e (headSpec wsX9_removeWord rmX9_removeWord).room s m (([.ref (ad 21 0), .int a1] : List Value).toArray) below meth c H locs 0 0 (MQ below (gQi D E ad L A K) ([.ref (ad 21 0), .int a1] : List Value).toArray s 0 0 A) (F0 m 71 ls []) := by
      intro M18 x2_19 H locs ls hw hP hS hl
      refine lv_aload_n hx hb dX9_removeWord_71 rfl (lv_at hl 0 rfl) ?_
      refine lv_aload_n hx hb dX9_removeWord_72 rfl (lv_at hl 0 rfl) ?_
      refine g_get (v := .ref (ad 22 0)) hx hb hts hown hK hP (hLm.h (f := 21) (by decide)) (gC21 _ _ _ _) gcl9 iX9_removeWord_X9 0 (by decide) mX9_removeWord_1 rfl rfl dX9_removeWord_73 ?_
      refine lv_iconst (v := (5 : Int32)) hx hb dX9_removeWord_76 (by decide) ?_
      have hb20 := hw.1
      have hw := hw.2
      refine g_iald (n := 1730) hx hb hK hP (hLm.h (f := 22) (by decide)) rfl hb20 dX9_removeWord_77 ?_
      refine g_Vi (As := [.int (M18 22 0 (5 : Int32).toNatClampNeg)]) (rest := []) S hK hN hP hS (qX9_acted l D E ad L A hF hLm M18 (M18 22 0 (5 : Int32).toNatClampNeg)  _ hw) (cwV 1 hts gX9_removeWord_X9_acted rfl rfl rfl eX9_acted ⟨Nat.le_of_ble_eq_true rfl, Nat.le_of_ble_eq_true rfl⟩) (hLm.h (f := 21) (by decide)) (gC21 _ _ _ _) gcl9 rfl rfl rfl hl.1 (Nat.le_of_ble_eq_true rfl) ⟨Nat.zero_le _, Nat.zero_le _⟩ dX9_removeWord_78 (fun r22 M21 H locs hw hP hS => ?_)
      exact g_iret hx hb hr hlocks hw hP hS dX9_removeWord_81
    have hlX9_removeWord_L33 : ∀ (n9 : Nat) (M10 : gW) (x2_11 : Int32) (H : Heap) (locs : List Loc) (ls : Array Slot), wX9_removeWord_L33 (fun M18 x2_19 => ((vp_in (5 : Int32) 1730) ∧ (wX9_acted M18 (M18 22 0 (5 : Int32).toNatClampNeg) (fun r22 M21 => (K r22 M21))))) n9 M10 x2_11 → va_P D vwCl (gL E ad L M10) H → va_S A s.heap H locs → lv_has ls 3 [(0, .ref (ad 21 0)), (1, .int a1), (2, .int x2_11)] → W p l e (headSpec wsX9_removeWord rmX9_removeWord).room s m (([.ref (ad 21 0), .int a1] : List Value).toArray) below meth c H locs 0 0 (MQ below (gQi D E ad L A K) ([.ref (ad 21 0), .int a1] : List Value).toArray s 0 0 A) (F0 m 33 ls []) := by
      intro n9
      induction n9 with
      | zero => intro M10 x2_11 H locs ls hw; exact False.elim hw
      | succ n9 ihn9 =>
        intro M10 x2_11 H locs ls hw hP hS hl
        refine lv_iload_n hx hb dX9_removeWord_33 rfl (lv_at hl 2 rfl) ?_
        refine lv_sipush (v := (1410 : Int32)) hx hb dX9_removeWord_34 (by decide) ?_
        refine lv_bipush (v := (16 : Int32)) hx hb dX9_removeWord_37 (by decide) ?_
        refine lv_aload_n hx hb dX9_removeWord_39 rfl (lv_at hl 0 rfl) ?_
        refine g_get (v := .ref (ad 22 0)) hx hb hts hown hK hP (hLm.h (f := 21) (by decide)) (gC21 _ _ _ _) gcl9 iX9_removeWord_X9 0 (by decide) mX9_removeWord_1 rfl rfl dX9_removeWord_40 ?_
        refine lv_iconst (v := (5 : Int32)) hx hb dX9_removeWord_43 (by decide) ?_
        have hb12 := hw.1
        have hw := hw.2
        refine g_iald (n := 1730) hx hb hK hP (hLm.h (f := 22) (by decide)) rfl hb12 dX9_removeWord_44 ?_
        refine lv_imul hx hb dX9_removeWord_45 ?_
        refine lv_iadd hx hb dX9_removeWord_46 ?_
        refine lv_icmp_ge (tgt := 71) hx hb dX9_removeWord_47 (by decide) (fun c13 => ?_) (fun c13 => ?_)
        · have hw := hw.1 c13
          exact hxX9_removeWord_L33_0 _ _ _ _ _ hw hP hS (lv_sub hl [0, 1, 2] rfl)
        · have hw := hw.2 c13
          refine lv_aload_n hx hb dX9_removeWord_50 rfl (lv_at hl 0 rfl) ?_
          refine g_get (v := .ref (ad 22 0)) hx hb hts hown hK hP (hLm.h (f := 21) (by decide)) (gC21 _ _ _ _) gcl9 iX9_removeWord_X9 0 (by decide) mX9_removeWord_1 rfl rfl dX9_removeWord_51 ?_
          refine lv_iload_n hx hb dX9_removeWord_54 rfl (lv_at hl 2 rfl) ?_
          refine lv_aload_n hx hb dX9_removeWord_55 rfl (lv_at hl 0 rfl) ?_
          refine g_get (v := .ref (ad 22 0)) hx hb hts hown hK hP (hLm.h (f := 21) (by decide)) (gC21 _ _ _ _) gcl9 iX9_removeWord_X9 0 (by decide) mX9_removeWord_1 rfl rfl dX9_removeWord_56 ?_
          refine lv_iload_n hx hb dX9_removeWord_59 rfl (lv_at hl 2 rfl) ?_
          refine lv_bipush (v := (16 : Int32)) hx hb dX9_removeWord_60 (by decide) ?_
          refine lv_iadd hx hb dX9_removeWord_62 ?_
          have hb14 := hw.1
          have hw := hw.2
          refine g_iald (n := 1730) hx hb hK hP (hLm.h (f := 22) (by decide)) rfl hb14 dX9_removeWord_63 ?_
          have hb15 := hw.1
          have hw := hw.2
          refine g_iast (n := 1730) hx hb hF hK hP hS (hLm.h (f := 22) (by decide)) (fun _ => rfl) hb15 dX9_removeWord_64 (fun M16 e17 H locs hP hS => ?_)
          have hw := hw M16 e17
          refine lv_iinc (v := (x2_11 + (1 : Int32))) (lv' := [(2, .int (x2_11 + (1 : Int32))), (0, .ref (ad 21 0)), (1, .int a1)]) hx hb dX9_removeWord_65 hl (k := 2) rfl rfl (by decide) rfl (fun ls hl => ?_)
          refine lv_goto (tgt := 33) hx hb dX9_removeWord_68 (by decide) ?_
          exact ihn9 _ _ _ _ _ hw hP hS (lv_sub hl [1, 2, 0] rfl)
    exact hlX9_removeWord_L33 n23 _ _ _ _ _ hw hP hS (lv_sub hl [1, 2, 0] rfl)
  · have hw := hw.1 c3
    refine lv_iconst (v := (-1 : Int32)) hx hb dX9_removeWord_8 (by decide) ?_
    exact g_iret hx hb hr hlocks hw hP hS dX9_removeWord_9
abbrev rmX9_isLines : Room := { frames := 1, cells := 0, slots := 0, locals := 25 }
theorem eX9_isLines : yX9_isLines.cls = RX9 ∧ yX9_isLines.cls ≠ "java/lang/invoke/MethodHandle" ∧ yX9_isLines.cls ≠ "java/lang/invoke/VarHandle" ∧ (parseMethodDescriptor yX9_isLines.desc).map (fun d => d.parameters.length) = some 1 := by decide +kernel
theorem mX9_isLines_1 : Cond.constantLong RX9 155 (10) ∈ wsX9_isLines := List.mem_of_getElem? (i := 1) rfl
set_option maxHeartbeats 4000000 in
set_option maxRecDepth 100000 in
theorem qX9_isLines (l : Launch) (D : va_G) (E : Nat → ClassId) (ad : Nat → Nat → Nat) (L : List (Nat × Nat)) (A : Nat → Prop) (hF : gF E ad L A) (hLm : gLm L) (M0 : gW) (a0 : Int32)  (K : Int32 → gW → Prop) (hw : wX9_isLines M0 a0 K) : Met l yX9_isLines wsX9_isLines rmX9_isLines (va_Pc [.int a0] (gPre D E ad L M0)) (gQi D E ad L A K) 0 0 A := by
  refine Met.ofW (cc := cX9_isLines) (maxL := 1) (ret := (some .boolean)) (by decide) rfl ?_
  intro p e s m args below meth c s₁ B hml hv
  obtain ⟨rfl, hP, hK, hN⟩ := hv
  have hx := B.exec
  have hb := B.bytes
  have hr := B.returns
  have hts := atoms_spec (ws := wsX9_isLines) B.pre
  have hown : s.vm.findClass RX9 = some m.cls := findClass_of_methodNamed B.named
  have hlocks := B.notSynchronized
  have S : CallFix p m c cX9_isLines 1 s ([.int a0] : List Value).toArray wsX9_isLines RX9 := ⟨hx, hb, hml, hown, hts⟩
  have hS : va_S A s.heap s.heap [] := va_S.rf
  have hl := lv_entry ([.int a0]) (n := 1) (Nat.le_of_ble_eq_true rfl)
  rw [lg_entry_eq]
  generalize (lg_sl ([.int a0]) ++ List.replicate (1 - (lg_sl ([.int a0])).length) Slot.unset).toArray = ls at hl ⊢
  have hl : lv_has ls 1 [(0, .int a0)] := hl
  refine lv_iload_n hx hb dX9_isLines_0 rfl (lv_at hl 0 rfl) ?_
  refine lv_i2l (v := a0.toInt64) hx hb dX9_isLines_1 rfl ?_
  refine lv_lconst (v := (1 : Int64)) hx hb dX9_isLines_2 (by decide) ?_
  refine lv_ldc2 (v := (10 : Int64)) hx hb hown (hts _ mX9_isLines_1) dX9_isLines_3 ?_
  refine g_Si (As := [.long (a0.toInt64), .long (1 : Int64), .long (10 : Int64)]) (rest := []) S hK hN hP hS (qX9_in l D E ad L A hF hLm M0 (a0.toInt64) (1 : Int64) (10 : Int64)  _ hw) (va_cwS 3 hts gX9_isLines_X9_in rfl rfl rfl eX9_in.2 ⟨Nat.le_of_ble_eq_true rfl, Nat.le_of_ble_eq_true rfl⟩) rfl rfl hl.1 (Nat.le_of_ble_eq_true rfl) ⟨Nat.zero_le _, Nat.zero_le _⟩ dX9_isLines_6 (fun r2 M1 H locs hw hP hS => ?_)
  have hb3 := hw.1
  have hw := hw.2
  exact g_zret hx hb hr hlocks hb3 hw hP hS dX9_isLines_9
abbrev rmX9_doSheet : Room := { frames := 5, cells := 0, slots := 0, locals := 117 }
theorem eX9_doSheet : yX9_doSheet.cls = RX9 ∧ yX9_doSheet.cls ≠ "java/lang/invoke/MethodHandle" ∧ yX9_doSheet.cls ≠ "java/lang/invoke/VarHandle" ∧ (parseMethodDescriptor yX9_doSheet.desc).map (fun d => d.parameters.length) = some 1 := by decide +kernel
theorem iX9_doSheet_X9 : ∀ w ∈ wsX90, w ∈ wsX9_doSheet := fun _ h => List.mem_cons_of_mem _ (List.mem_append_right _ (h))
theorem mX9_doSheet_1 : Cond.fieldLink RX9 93 "PracticeSheetsModel" "lines" "I" ∈ wsX9_doSheet := List.mem_of_getElem? (i := 1) rfl
set_option maxHeartbeats 4000000 in
set_option maxRecDepth 100000 in
theorem qX9_doSheet (l : Launch) (D : va_G) (E : Nat → ClassId) (ad : Nat → Nat → Nat) (L : List (Nat × Nat)) (A : Nat → Prop) (hF : gF E ad L A) (hLm : gLm L) (M0 : gW) (a1 : Int32)  (K : Int32 → gW → Prop) (hw : wX9_doSheet M0 a1 K) : Met l yX9_doSheet wsX9_doSheet rmX9_doSheet (va_Pc [.ref (ad 21 0), .int a1] (gPre D E ad L M0)) (gQi D E ad L A K) 0 0 A := by
  refine Met.ofW (cc := cX9_doSheet) (maxL := 2) (ret := (some .int)) (by decide) rfl ?_
  intro p e s m args below meth c s₁ B hml hv
  obtain ⟨rfl, hP, hK, hN⟩ := hv
  have hx := B.exec
  have hb := B.bytes
  have hr := B.returns
  have hts := atoms_spec (ws := wsX9_doSheet) B.pre
  have hown : s.vm.findClass RX9 = some m.cls := findClass_of_methodNamed B.named
  have hlocks := B.notSynchronized
  have S : CallFix p m c cX9_doSheet 2 s ([.ref (ad 21 0), .int a1] : List Value).toArray wsX9_doSheet RX9 := ⟨hx, hb, hml, hown, hts⟩
  have hS : va_S A s.heap s.heap [] := va_S.rf
  have hl := lv_entry ([.ref (ad 21 0), .int a1]) (n := 2) (Nat.le_of_ble_eq_true rfl)
  rw [lg_entry_eq]
  generalize (lg_sl ([.ref (ad 21 0), .int a1]) ++ List.replicate (2 - (lg_sl ([.ref (ad 21 0), .int a1])).length) Slot.unset).toArray = ls at hl ⊢
  have hl : lv_has ls 2 [(0, .ref (ad 21 0)), (1, .int a1)] := hl
  refine lv_iload_n hx hb dX9_doSheet_0 rfl (lv_at hl 1 rfl) ?_
  refine g_Si (As := [.int a1]) (rest := []) S hK hN hP hS (qX9_isLines l D E ad L A hF hLm M0 a1  _ hw) (va_cwS 1 hts gX9_doSheet_X9_isLines rfl rfl rfl eX9_isLines.2 ⟨Nat.le_of_ble_eq_true rfl, Nat.le_of_ble_eq_true rfl⟩) rfl rfl hl.1 (Nat.le_of_ble_eq_true rfl) ⟨Nat.zero_le _, Nat.zero_le _⟩ dX9_doSheet_1 (fun r2 M1 H locs hw hP hS => ?_)
  refine lv_if_ne (tgt := 10) hx hb dX9_doSheet_4 (by decide) (fun c3 => ?_) (fun c3 => ?_)
  · have hw := hw.2 c3
    refine lv_aload_n hx hb dX9_doSheet_10 rfl (lv_at hl 0 rfl) ?_
    refine lv_iload_n hx hb dX9_doSheet_11 rfl (lv_at hl 1 rfl) ?_
    refine g_Vv (As := [.int a1]) (rest := []) S hK hN hP hS (qX9_makesSheet l D E ad L A hF hLm M1 a1  _ hw) (cwV 1 hts gX9_doSheet_X9_makesSheet rfl rfl rfl eX9_makesSheet ⟨Nat.le_of_ble_eq_true rfl, Nat.le_of_ble_eq_true rfl⟩) (hLm.h (f := 21) (by decide)) (gC21 _ _ _ _) gcl9 rfl rfl rfl hl.1 (Nat.le_of_ble_eq_true rfl) ⟨Nat.zero_le _, Nat.zero_le _⟩ dX9_doSheet_12 (fun M4 H locs hw hP hS => ?_)
    refine lv_aload_n hx hb dX9_doSheet_15 rfl (lv_at hl 0 rfl) ?_
    refine g_get (v := .int (M4 21 0 11)) hx hb hts hown hK hP (hLm.h (f := 21) (by decide)) (gC21 _ _ _ _) gcl9 iX9_doSheet_X9 11 (by decide) mX9_doSheet_1 rfl rfl dX9_doSheet_16 ?_
    refine lv_if_ne (tgt := 25) hx hb dX9_doSheet_19 (by decide) (fun c5 => ?_) (fun c5 => ?_)
    · have hw := hw.2 c5
      refine lv_aload_n hx hb dX9_doSheet_25 rfl (lv_at hl 0 rfl) ?_
      refine g_Vv (As := []) (rest := []) S hK hN hP hS (qX9_remember l D E ad L A hF hLm M4  _ hw) (cwV 0 hts gX9_doSheet_X9_remember rfl rfl rfl eX9_remember ⟨Nat.le_of_ble_eq_true rfl, Nat.le_of_ble_eq_true rfl⟩) (hLm.h (f := 21) (by decide)) (gC21 _ _ _ _) gcl9 rfl rfl rfl hl.1 (Nat.le_of_ble_eq_true rfl) ⟨Nat.zero_le _, Nat.zero_le _⟩ dX9_doSheet_26 (fun M6 H locs hw hP hS => ?_)
      refine lv_aload_n hx hb dX9_doSheet_29 rfl (lv_at hl 0 rfl) ?_
      refine g_Vv (As := []) (rest := []) S hK hN hP hS (qX9_writesSheet l D E ad L A hF hLm M6  _ hw) (cwV 0 hts gX9_doSheet_X9_writesSheet rfl rfl rfl eX9_writesSheet ⟨Nat.le_of_ble_eq_true rfl, Nat.le_of_ble_eq_true rfl⟩) (hLm.h (f := 21) (by decide)) (gC21 _ _ _ _) gcl9 rfl rfl rfl hl.1 (Nat.le_of_ble_eq_true rfl) ⟨Nat.zero_le _, Nat.zero_le _⟩ dX9_doSheet_30 (fun M7 H locs hw hP hS => ?_)
      refine lv_aload_n hx hb dX9_doSheet_33 rfl (lv_at hl 0 rfl) ?_
      refine lv_aload_n hx hb dX9_doSheet_34 rfl (lv_at hl 0 rfl) ?_
      refine g_get (v := .int (M7 21 0 11)) hx hb hts hown hK hP (hLm.h (f := 21) (by decide)) (gC21 _ _ _ _) gcl9 iX9_doSheet_X9 11 (by decide) mX9_doSheet_1 rfl rfl dX9_doSheet_35 ?_
      refine g_Vi (As := [.int (M7 21 0 11)]) (rest := []) S hK hN hP hS (qX9_acted l D E ad L A hF hLm M7 (M7 21 0 11)  _ hw) (cwV 1 hts gX9_doSheet_X9_acted rfl rfl rfl eX9_acted ⟨Nat.le_of_ble_eq_true rfl, Nat.le_of_ble_eq_true rfl⟩) (hLm.h (f := 21) (by decide)) (gC21 _ _ _ _) gcl9 rfl rfl rfl hl.1 (Nat.le_of_ble_eq_true rfl) ⟨Nat.zero_le _, Nat.zero_le _⟩ dX9_doSheet_38 (fun r9 M8 H locs hw hP hS => ?_)
      exact g_iret hx hb hr hlocks hw hP hS dX9_doSheet_41
    · have hw := hw.1 c5
      refine lv_bipush (v := (-5 : Int32)) hx hb dX9_doSheet_22 (by decide) ?_
      exact g_iret hx hb hr hlocks hw hP hS dX9_doSheet_24
  · have hw := hw.1 c3
    refine lv_bipush (v := (-2 : Int32)) hx hb dX9_doSheet_7 (by decide) ?_
    exact g_iret hx hb hr hlocks hw hP hS dX9_doSheet_9
abbrev rmX9_undo : Room := { frames := 0, cells := 0, slots := 0, locals := 0 }
theorem eX9_undo : yX9_undo.cls = RX9 ∧ yX9_undo.cls ≠ "java/lang/invoke/MethodHandle" ∧ yX9_undo.cls ≠ "java/lang/invoke/VarHandle" ∧ (parseMethodDescriptor yX9_undo.desc).map (fun d => d.parameters.length) = some 0 := by decide +kernel
theorem iX9_undo_X9 : ∀ w ∈ wsX90, w ∈ wsX9_undo := fun _ h => List.mem_cons_of_mem _ (List.mem_append_right _ (h))
theorem mX9_undo_1 : Cond.fieldLink RX9 53 "PracticeSheetsModel" "historyLong" "I" ∈ wsX9_undo := List.mem_of_getElem? (i := 1) rfl
theorem mX9_undo_2 : Cond.fieldLink RX9 7 "PracticeSheetsModel" "all" "[I" ∈ wsX9_undo := List.mem_of_getElem? (i := 2) rfl
theorem mX9_undo_3 : Cond.fieldLink RX9 19 "PracticeSheetsModel" "history" "[I" ∈ wsX9_undo := List.mem_of_getElem? (i := 3) rfl
set_option maxHeartbeats 4000000 in
set_option maxRecDepth 100000 in
theorem qX9_undo (l : Launch) (D : va_G) (E : Nat → ClassId) (ad : Nat → Nat → Nat) (L : List (Nat × Nat)) (A : Nat → Prop) (hF : gF E ad L A) (hLm : gLm L) (M0 : gW)  (K : Int32 → gW → Prop) (hw : wX9_undo M0 K) : Met l yX9_undo wsX9_undo rmX9_undo (va_Pc [.ref (ad 21 0)] (gPre D E ad L M0)) (gQi D E ad L A K) 0 0 A := by
  refine Met.ofW (cc := cX9_undo) (maxL := 2) (ret := (some .int)) (by decide) rfl ?_
  intro p e s m args below meth c s₁ B hml hv
  obtain ⟨rfl, hP, hK, hN⟩ := hv
  have hx := B.exec
  have hb := B.bytes
  have hr := B.returns
  have hts := atoms_spec (ws := wsX9_undo) B.pre
  have hown : s.vm.findClass RX9 = some m.cls := findClass_of_methodNamed B.named
  have hlocks := B.notSynchronized
  have S : CallFix p m c cX9_undo 2 s ([.ref (ad 21 0)] : List Value).toArray wsX9_undo RX9 := ⟨hx, hb, hml, hown, hts⟩
  have hS : va_S A s.heap s.heap [] := va_S.rf
  have hl := lv_entry ([.ref (ad 21 0)]) (n := 2) (Nat.le_of_ble_eq_true rfl)
  rw [lg_entry_eq]
  generalize (lg_sl ([.ref (ad 21 0)]) ++ List.replicate (2 - (lg_sl ([.ref (ad 21 0)])).length) Slot.unset).toArray = ls at hl ⊢
  have hl : lv_has ls 2 [(0, .ref (ad 21 0))] := hl
  refine lv_aload_n hx hb dX9_undo_0 rfl (lv_at hl 0 rfl) ?_
  refine g_get (v := .int (M0 21 0 4)) hx hb hts hown hK hP (hLm.h (f := 21) (by decide)) (gC21 _ _ _ _) gcl9 iX9_undo_X9 4 (by decide) mX9_undo_1 rfl rfl dX9_undo_1 ?_
  refine lv_if_ne (tgt := 10) hx hb dX9_undo_4 (by decide) (fun c1 => ?_) (fun c1 => ?_)
  · have hw := hw.2 c1
    refine lv_aload_n hx hb dX9_undo_10 rfl (lv_at hl 0 rfl) ?_
    refine lv_dup hx hb dX9_undo_11 rfl ?_
    refine g_get (v := .int (M0 21 0 4)) hx hb hts hown hK hP (hLm.h (f := 21) (by decide)) (gC21 _ _ _ _) gcl9 iX9_undo_X9 4 (by decide) mX9_undo_1 rfl rfl dX9_undo_12 ?_
    refine lv_iconst (v := (1 : Int32)) hx hb dX9_undo_15 (by decide) ?_
    refine lv_isub hx hb dX9_undo_16 ?_
    refine g_put hx hb hF hts hown hK hP hS (hLm.h (f := 21) (by decide)) (gC21 _ _ _ _) gcl9 iX9_undo_X9 tyX9 tyX9_ok nmX9 4 (by decide) mX9_undo_1 rfl rfl rfl rfl (Nat.lt_of_lt_of_eq (by decide : 4 < 19) rfl) rfl dX9_undo_17 (fun M2 e3 H locs hP hS => ?_)
    have hw := hw M2 e3
    refine lv_iconst (v := (0 : Int32)) hx hb dX9_undo_20 (by decide) ?_
    refine lv_istore_n (lv' := [(1, .int (0 : Int32)), (0, .ref (ad 21 0))]) hx hb dX9_undo_21 rfl hl (by decide) rfl (fun ls hl => ?_)
    obtain ⟨n14, hw⟩ := hw
    have hxX9_undo_L22_0 : ∀ (M12 : gW) (x1_13 : Int32) (H : Heap) (locs : List Loc) (ls : Array Slot), (K (M12 21 0 4) M12) → va_P D vwCl (gL E ad L M12) H → va_S A s.heap H locs → lv_has ls 2 [(0, .ref (ad 21 0)), (1, .int x1_13)] → W p l e (headSpec wsX9_undo rmX9_undo).room s m (([.ref (ad 21 0)] : List Value).toArray) below meth c H locs 0 0 (MQ below (gQi D E ad L A K) ([.ref (ad 21 0)] : List Value).toArray s 0 0 A) (F0 m 56 ls []) := by
      intro M12 x1_13 H locs ls hw hP hS hl
      refine lv_aload_n hx hb dX9_undo_56 rfl (lv_at hl 0 rfl) ?_
      refine g_get (v := .int (M12 21 0 4)) hx hb hts hown hK hP (hLm.h (f := 21) (by decide)) (gC21 _ _ _ _) gcl9 iX9_undo_X9 4 (by decide) mX9_undo_1 rfl rfl dX9_undo_57 ?_
      exact g_iret hx hb hr hlocks hw hP hS dX9_undo_60
    have hlX9_undo_L22 : ∀ (n4 : Nat) (M5 : gW) (x1_6 : Int32) (H : Heap) (locs : List Loc) (ls : Array Slot), wX9_undo_L22 (fun M12 x1_13 => (K (M12 21 0 4) M12)) n4 M5 x1_6 → va_P D vwCl (gL E ad L M5) H → va_S A s.heap H locs → lv_has ls 2 [(0, .ref (ad 21 0)), (1, .int x1_6)] → W p l e (headSpec wsX9_undo rmX9_undo).room s m (([.ref (ad 21 0)] : List Value).toArray) below meth c H locs 0 0 (MQ below (gQi D E ad L A K) ([.ref (ad 21 0)] : List Value).toArray s 0 0 A) (F0 m 22 ls []) := by
      intro n4
      induction n4 with
      | zero => intro M5 x1_6 H locs ls hw; exact False.elim hw
      | succ n4 ihn4 =>
        intro M5 x1_6 H locs ls hw hP hS hl
        refine lv_iload_n hx hb dX9_undo_22 rfl (lv_at hl 1 rfl) ?_
        refine lv_sipush (v := (1730 : Int32)) hx hb dX9_undo_23 (by decide) ?_
        refine lv_icmp_ge (tgt := 56) hx hb dX9_undo_26 (by decide) (fun c7 => ?_) (fun c7 => ?_)
        · have hw := hw.1 c7
          exact hxX9_undo_L22_0 _ _ _ _ _ hw hP hS (lv_sub hl [0, 1] rfl)
        · have hw := hw.2 c7
          refine lv_aload_n hx hb dX9_undo_29 rfl (lv_at hl 0 rfl) ?_
          refine g_get (v := .ref (ad 22 0)) hx hb hts hown hK hP (hLm.h (f := 21) (by decide)) (gC21 _ _ _ _) gcl9 iX9_undo_X9 0 (by decide) mX9_undo_2 rfl rfl dX9_undo_30 ?_
          refine lv_iload_n hx hb dX9_undo_33 rfl (lv_at hl 1 rfl) ?_
          refine lv_aload_n hx hb dX9_undo_34 rfl (lv_at hl 0 rfl) ?_
          refine g_get (v := .ref (ad 22 3)) hx hb hts hown hK hP (hLm.h (f := 21) (by decide)) (gC21 _ _ _ _) gcl9 iX9_undo_X9 3 (by decide) mX9_undo_3 rfl rfl dX9_undo_35 ?_
          refine lv_sipush (v := (1730 : Int32)) hx hb dX9_undo_38 (by decide) ?_
          refine lv_aload_n hx hb dX9_undo_41 rfl (lv_at hl 0 rfl) ?_
          refine g_get (v := .int (M5 21 0 4)) hx hb hts hown hK hP (hLm.h (f := 21) (by decide)) (gC21 _ _ _ _) gcl9 iX9_undo_X9 4 (by decide) mX9_undo_1 rfl rfl dX9_undo_42 ?_
          refine lv_imul hx hb dX9_undo_45 ?_
          refine lv_iload_n hx hb dX9_undo_46 rfl (lv_at hl 1 rfl) ?_
          refine lv_iadd hx hb dX9_undo_47 ?_
          have hb8 := hw.1
          have hw := hw.2
          refine g_iald (n := 6920) hx hb hK hP (hLm.h (f := 22) (by decide)) rfl hb8 dX9_undo_48 ?_
          have hb9 := hw.1
          have hw := hw.2
          refine g_iast (n := 1730) hx hb hF hK hP hS (hLm.h (f := 22) (by decide)) (fun _ => rfl) hb9 dX9_undo_49 (fun M10 e11 H locs hP hS => ?_)
          have hw := hw M10 e11
          refine lv_iinc (v := (x1_6 + (1 : Int32))) (lv' := [(1, .int (x1_6 + (1 : Int32))), (0, .ref (ad 21 0))]) hx hb dX9_undo_50 hl (k := 1) rfl rfl (by decide) rfl (fun ls hl => ?_)
          refine lv_goto (tgt := 22) hx hb dX9_undo_53 (by decide) ?_
          exact ihn4 _ _ _ _ _ hw hP hS (lv_sub hl [1, 0] rfl)
    exact hlX9_undo_L22 n14 _ _ _ _ _ hw hP hS (lv_sub hl [1, 0] rfl)
  · have hw := hw.1 c1
    refine lv_bipush (v := (-5 : Int32)) hx hb dX9_undo_7 (by decide) ?_
    exact g_iret hx hb hr hlocks hw hP hS dX9_undo_9
