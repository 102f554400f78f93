/-! ===== LAYER 1: contracts, walked (printed by wip/whole/gen.py) ===== -/
abbrev rmX1_triedFrom : Room := { frames := 3, cells := 0, slots := 0, locals := 62 }
theorem eX1_triedFrom : yX1_triedFrom.cls = RX1 ∧ yX1_triedFrom.cls ≠ "java/lang/invoke/MethodHandle" ∧ yX1_triedFrom.cls ≠ "java/lang/invoke/VarHandle" ∧ (parseMethodDescriptor yX1_triedFrom.desc).map (fun d => d.parameters.length) = some 2 := by decide +kernel
set_option maxHeartbeats 4000000 in
set_option maxRecDepth 100000 in
theorem qX1_triedFrom (l : Launch) (D : va_G) (E : Nat → ClassId) (ad : Nat → Nat → Nat) (L : List (Nat × Nat)) (A : Nat → Prop) (hF : gF E ad L A) (hLx : gLx L) (M0 : gW) (k0 : Nat) (a1 : Int32) (a2 : Int32) (hk0 : k0 < gN 2) (K : Int32 → gW → Prop) (hw : wX1_triedFrom M0 k0 a1 a2 K) : Met l yX1_triedFrom wsX1_triedFrom rmX1_triedFrom (va_Pc [.ref (ad 2 k0), .int a1, .int a2] (gPre D E ad L M0)) (gQi D E ad L A K) 0 0 A := by
  refine Met.ofW (cc := cX1_triedFrom) (maxL := 5) (ret := (some .int)) (by decide) rfl ?_
  intro p e s m args below meth c s₁ B hml hv
  obtain ⟨rfl, hP, hK, hN⟩ := hv
  have hx := B.exec
  have hb := B.bytes
  have hr := B.returns
  have hts := atoms_spec (ws := wsX1_triedFrom) B.pre
  have hown : s.vm.findClass RX1 = some m.cls := findClass_of_methodNamed B.named
  have hlocks := B.notSynchronized
  have S : CallFix p m c cX1_triedFrom 5 s ([.ref (ad 2 k0), .int a1, .int a2] : List Value).toArray wsX1_triedFrom RX1 := ⟨hx, hb, hml, hown, hts⟩
  have hS : va_S A s.heap s.heap [] := va_S.rf
  have hl := lv_entry ([.ref (ad 2 k0), .int a1, .int a2]) (n := 5) (Nat.le_of_ble_eq_true rfl)
  rw [lg_entry_eq]
  generalize (lg_sl ([.ref (ad 2 k0), .int a1, .int a2]) ++ List.replicate (5 - (lg_sl ([.ref (ad 2 k0), .int a1, .int a2])).length) Slot.unset).toArray = ls at hl ⊢
  have hl : lv_has ls 5 [(0, .ref (ad 2 k0)), (1, .int a1), (2, .int a2)] := hl
  refine lv_iconst (v := (0 : Int32)) hx hb dX1_triedFrom_0 (by decide) ?_
  refine lv_istore_n (lv' := [(3, .int (0 : Int32)), (0, .ref (ad 2 k0)), (1, .int a1), (2, .int a2)]) hx hb dX1_triedFrom_1 rfl hl (by decide) rfl (fun ls hl => ?_)
  refine lv_iload_n hx hb dX1_triedFrom_2 rfl (lv_at hl 2 rfl) ?_
  refine lv_istore (lv' := [(4, .int a1), (3, .int (0 : Int32)), (0, .ref (ad 2 k0)), (1, .int a1), (2, .int a2)]) hx hb dX1_triedFrom_3 hl (by decide) rfl (fun ls hl => ?_)
  obtain ⟨n12, hw⟩ := hw
  have hxX1_triedFrom_L5_0 : ∀ (M9 : gW) (x3_10 : Int32) (x4_11 : Int32) (H : Heap) (locs : List Loc) (ls : Array Slot), (K x3_10 M9) → va_P D vwCl (gL E ad L M9) H → va_S A s.heap H locs → lv_has ls 5 [(0, .ref (ad 2 k0)), (1, .int a1), (2, .int a2), (3, .int x3_10), (4, .int x4_11)] → W p l e (headSpec wsX1_triedFrom rmX1_triedFrom).room s m (([.ref (ad 2 k0), .int a1, .int a2] : List Value).toArray) below meth c H locs 0 0 (MQ below (gQi D E ad L A K) ([.ref (ad 2 k0), .int a1, .int a2] : List Value).toArray s 0 0 A) (F0 m 29 ls []) := by
    intro M9 x3_10 x4_11 H locs ls hw hP hS hl
    refine lv_iload_n hx hb dX1_triedFrom_29 rfl (lv_at hl 3 rfl) ?_
    exact g_iret hx hb hr hlocks hw hP hS dX1_triedFrom_30
  have hlX1_triedFrom_L5 : ∀ (n1 : Nat) (M2 : gW) (x3_3 : Int32) (x4_4 : Int32) (H : Heap) (locs : List Loc) (ls : Array Slot), wX1_triedFrom_L5 k0 a2 (fun M9 x3_10 x4_11 => (K x3_10 M9)) n1 M2 x3_3 x4_4 → va_P D vwCl (gL E ad L M2) H → va_S A s.heap H locs → lv_has ls 5 [(0, .ref (ad 2 k0)), (1, .int a1), (2, .int a2), (3, .int x3_3), (4, .int x4_4)] → W p l e (headSpec wsX1_triedFrom rmX1_triedFrom).room s m (([.ref (ad 2 k0), .int a1, .int a2] : List Value).toArray) below meth c H locs 0 0 (MQ below (gQi D E ad L A K) ([.ref (ad 2 k0), .int a1, .int a2] : List Value).toArray s 0 0 A) (F0 m 5 ls []) := by
    intro n1
    induction n1 with
    | zero => intro M2 x3_3 x4_4 H locs ls hw; exact False.elim hw
    | succ n1 ihn1 =>
      intro M2 x3_3 x4_4 H locs ls hw hP hS hl
      refine lv_iload hx hb dX1_triedFrom_5 (lv_at hl 4 rfl) ?_
      refine lv_iload_n hx hb dX1_triedFrom_7 rfl (lv_at hl 2 rfl) ?_
      refine lv_icmp_ge (tgt := 29) hx hb dX1_triedFrom_8 (by decide) (fun c5 => ?_) (fun c5 => ?_)
      · have hw := hw.1 c5
        exact hxX1_triedFrom_L5_0 _ _ _ _ _ _ hw hP hS (lv_sub hl [0, 1, 2, 3, 4] rfl)
      · have hw := hw.2 c5
        refine lv_aload_n hx hb dX1_triedFrom_11 rfl (lv_at hl 0 rfl) ?_
        refine lv_iload hx hb dX1_triedFrom_12 (lv_at hl 4 rfl) ?_
        refine g_Vi (As := [.int x4_4]) (rest := []) S hK hN hP hS (qX1_isUntried l D E ad L A hF hLx M2 k0 x4_4 hk0 _ hw) (cwV 1 hts gX1_triedFrom_X1_isUntried rfl rfl rfl eX1_isUntried ⟨Nat.le_of_ble_eq_true rfl, Nat.le_of_ble_eq_true rfl⟩) (hLx.h (f := 2) hk0) (gC2 _ _ _ _) gcl1 rfl rfl rfl hl.1 (Nat.le_of_ble_eq_true rfl) ⟨Nat.zero_le _, Nat.zero_le _⟩ dX1_triedFrom_14 (fun r7 M6 H locs hw hP hS => ?_)
        refine lv_if_ne (tgt := 23) hx hb dX1_triedFrom_17 (by decide) (fun c8 => ?_) (fun c8 => ?_)
        · have hw := hw.2 c8
          refine lv_iinc (v := (x4_4 + (1 : Int32))) (lv' := [(4, .int (x4_4 + (1 : Int32))), (0, .ref (ad 2 k0)), (1, .int a1), (2, .int a2), (3, .int x3_3)]) hx hb dX1_triedFrom_23 hl (k := 4) rfl rfl (by decide) rfl (fun ls hl => ?_)
          refine lv_goto (tgt := 5) hx hb dX1_triedFrom_26 (by decide) ?_
          exact ihn1 _ _ _ _ _ _ hw hP hS (lv_sub hl [1, 2, 3, 4, 0] rfl)
        · have hw := hw.1 c8
          refine lv_iinc (v := (x3_3 + (1 : Int32))) (lv' := [(3, .int (x3_3 + (1 : Int32))), (0, .ref (ad 2 k0)), (1, .int a1), (2, .int a2), (4, .int x4_4)]) hx hb dX1_triedFrom_20 hl (k := 3) rfl rfl (by decide) rfl (fun ls hl => ?_)
          refine lv_iinc (v := (x4_4 + (1 : Int32))) (lv' := [(4, .int (x4_4 + (1 : Int32))), (3, .int (x3_3 + (1 : Int32))), (0, .ref (ad 2 k0)), (1, .int a1), (2, .int a2)]) hx hb dX1_triedFrom_23 hl (k := 4) rfl rfl (by decide) rfl (fun ls hl => ?_)
          refine lv_goto (tgt := 5) hx hb dX1_triedFrom_26 (by decide) ?_
          exact ihn1 _ _ _ _ _ _ hw hP hS (lv_sub hl [2, 3, 4, 1, 0] rfl)
  exact hlX1_triedFrom_L5 n12 _ _ _ _ _ _ hw hP hS (lv_sub hl [2, 3, 4, 1, 0] rfl)
abbrev rmX2_countNeeds : Room := { frames := 3, cells := 0, slots := 0, locals := 62 }
theorem eX2_countNeeds : yX2_countNeeds.cls = RX2 ∧ yX2_countNeeds.cls ≠ "java/lang/invoke/MethodHandle" ∧ yX2_countNeeds.cls ≠ "java/lang/invoke/VarHandle" ∧ (parseMethodDescriptor yX2_countNeeds.desc).map (fun d => d.parameters.length) = some 3 := by decide +kernel
theorem iX2_countNeeds_X2 : ∀ w ∈ wsX20, w ∈ wsX2_countNeeds := fun _ h => List.mem_cons_of_mem _ (List.mem_append_left _ (List.mem_append_right _ (h)))
theorem mX2_countNeeds_1 : Cond.fieldLink RX2 9 "PracticeSheets$Ranking" "howMany" "[I" ∈ wsX2_countNeeds := List.mem_of_getElem? (i := 1) rfl
set_option maxHeartbeats 4000000 in
set_option maxRecDepth 100000 in
theorem qX2_countNeeds (l : Launch) (D : va_G) (E : Nat → ClassId) (ad : Nat → Nat → Nat) (L : List (Nat × Nat)) (A : Nat → Prop) (hF : gF E ad L A) (hLx : gLx L) (M0 : gW) (k1 : Nat) (a2 : Int32) (a3 : Int32) (hk1 : k1 < gN 2) (K : gW → Prop) (hw : wX2_countNeeds M0 k1 a2 a3 K) : Met l yX2_countNeeds wsX2_countNeeds rmX2_countNeeds (va_Pc [.ref (ad 19 0), .ref (ad 2 k1), .int a2, .int a3] (gPre D E ad L M0)) (gQv D E ad L A K) 0 0 A := by
  refine Met.ofW (cc := cX2_countNeeds) (maxL := 6) (ret := none) (by decide) rfl ?_
  intro p e s m args below meth c s₁ B hml hv
  obtain ⟨rfl, hP, hK, hN⟩ := hv
  have hx := B.exec
  have hb := B.bytes
  have hr := B.returns
  have hts := atoms_spec (ws := wsX2_countNeeds) B.pre
  have hown : s.vm.findClass RX2 = some m.cls := findClass_of_methodNamed B.named
  have hlocks := B.notSynchronized
  have S : CallFix p m c cX2_countNeeds 6 s ([.ref (ad 19 0), .ref (ad 2 k1), .int a2, .int a3] : List Value).toArray wsX2_countNeeds RX2 := ⟨hx, hb, hml, hown, hts⟩
  have hS : va_S A s.heap s.heap [] := va_S.rf
  have hl := lv_entry ([.ref (ad 19 0), .ref (ad 2 k1), .int a2, .int a3]) (n := 6) (Nat.le_of_ble_eq_true rfl)
  rw [lg_entry_eq]
  generalize (lg_sl ([.ref (ad 19 0), .ref (ad 2 k1), .int a2, .int a3]) ++ List.replicate (6 - (lg_sl ([.ref (ad 19 0), .ref (ad 2 k1), .int a2, .int a3])).length) Slot.unset).toArray = ls at hl ⊢
  have hl : lv_has ls 6 [(0, .ref (ad 19 0)), (1, .ref (ad 2 k1)), (2, .int a2), (3, .int a3)] := hl
  refine lv_iconst (v := (0 : Int32)) hx hb dX2_countNeeds_0 (by decide) ?_
  refine lv_istore (lv' := [(4, .int (0 : Int32)), (0, .ref (ad 19 0)), (1, .ref (ad 2 k1)), (2, .int a2), (3, .int a3)]) hx hb dX2_countNeeds_1 hl (by decide) rfl (fun ls hl => ?_)
  obtain ⟨n25, hw⟩ := hw
  have hxX2_countNeeds_L3_0 : ∀ (M8 : gW) (x4_9 : Int32) (H : Heap) (locs : List Loc) (ls : Array Slot), (∃ n24 : Nat, wX2_countNeeds_L27 k1 a3 (fun M22 x4_23 => (K M22)) n24 M8 a2) → va_P D vwCl (gL E ad L M8) H → va_S A s.heap H locs → lv_has ls 6 [(0, .ref (ad 19 0)), (1, .ref (ad 2 k1)), (2, .int a2), (3, .int a3), (4, .int x4_9)] → W p l e (headSpec wsX2_countNeeds rmX2_countNeeds).room s m (([.ref (ad 19 0), .ref (ad 2 k1), .int a2, .int a3] : List Value).toArray) below meth c H locs 0 0 (MQ below (gQv D E ad L A K) ([.ref (ad 19 0), .ref (ad 2 k1), .int a2, .int a3] : List Value).toArray s 0 0 A) (F0 m 24 ls []) := by
    intro M8 x4_9 H locs ls hw hP hS hl
    refine lv_iload_n hx hb dX2_countNeeds_24 rfl (lv_at hl 2 rfl) ?_
    refine lv_istore (lv' := [(4, .int a2), (0, .ref (ad 19 0)), (1, .ref (ad 2 k1)), (2, .int a2), (3, .int a3)]) hx hb dX2_countNeeds_25 hl (by decide) rfl (fun ls hl => ?_)
    obtain ⟨n24, hw⟩ := hw
    have hxX2_countNeeds_L27_0 : ∀ (M22 : gW) (x4_23 : Int32) (H : Heap) (locs : List Loc) (ls : Array Slot), (K M22) → va_P D vwCl (gL E ad L M22) H → va_S A s.heap H locs → lv_has ls 6 [(0, .ref (ad 19 0)), (1, .ref (ad 2 k1)), (2, .int a2), (3, .int a3), (4, .int x4_23)] → W p l e (headSpec wsX2_countNeeds rmX2_countNeeds).room s m (([.ref (ad 19 0), .ref (ad 2 k1), .int a2, .int a3] : List Value).toArray) below meth c H locs 0 0 (MQ below (gQv D E ad L A K) ([.ref (ad 19 0), .ref (ad 2 k1), .int a2, .int a3] : List Value).toArray s 0 0 A) (F0 m 70 ls []) := by
      intro M22 x4_23 H locs ls hw hP hS hl
      exact g_vret hx hb hr hlocks hw hP hS dX2_countNeeds_70
    have hlX2_countNeeds_L27 : ∀ (n10 : Nat) (M11 : gW) (x4_12 : Int32) (H : Heap) (locs : List Loc) (ls : Array Slot), wX2_countNeeds_L27 k1 a3 (fun M22 x4_23 => (K M22)) n10 M11 x4_12 → va_P D vwCl (gL E ad L M11) H → va_S A s.heap H locs → lv_has ls 6 [(0, .ref (ad 19 0)), (1, .ref (ad 2 k1)), (2, .int a2), (3, .int a3), (4, .int x4_12)] → W p l e (headSpec wsX2_countNeeds rmX2_countNeeds).room s m (([.ref (ad 19 0), .ref (ad 2 k1), .int a2, .int a3] : List Value).toArray) below meth c H locs 0 0 (MQ below (gQv D E ad L A K) ([.ref (ad 19 0), .ref (ad 2 k1), .int a2, .int a3] : List Value).toArray s 0 0 A) (F0 m 27 ls []) := by
      intro n10
      induction n10 with
      | zero => intro M11 x4_12 H locs ls hw; exact False.elim hw
      | succ n10 ihn10 =>
        intro M11 x4_12 H locs ls hw hP hS hl
        refine lv_iload hx hb dX2_countNeeds_27 (lv_at hl 4 rfl) ?_
        refine lv_iload_n hx hb dX2_countNeeds_29 rfl (lv_at hl 3 rfl) ?_
        refine lv_icmp_ge (tgt := 70) hx hb dX2_countNeeds_30 (by decide) (fun c13 => ?_) (fun c13 => ?_)
        · have hw := hw.1 c13
          exact hxX2_countNeeds_L27_0 _ _ _ _ _ hw hP hS (lv_sub hl [0, 1, 2, 3, 4] rfl)
        · have hw := hw.2 c13
          refine lv_aload_n hx hb dX2_countNeeds_33 rfl (lv_at hl 1 rfl) ?_
          refine lv_iload hx hb dX2_countNeeds_34 (lv_at hl 4 rfl) ?_
          refine g_Vi (As := [.int x4_12]) (rest := []) S hK hN hP hS (qX1_needOf l D E ad L A hF hLx M11 k1 x4_12 hk1 _ hw) (cwV 1 hts gX2_countNeeds_X1_needOf rfl rfl rfl eX1_needOf ⟨Nat.le_of_ble_eq_true rfl, Nat.le_of_ble_eq_true rfl⟩) (hLx.h (f := 2) hk1) (gC2 _ _ _ _) gcl1 rfl rfl rfl hl.1 (Nat.le_of_ble_eq_true rfl) ⟨Nat.zero_le _, Nat.zero_le _⟩ dX2_countNeeds_36 (fun r15 M14 H locs hw hP hS => ?_)
          refine lv_istore (lv' := [(5, .int r15), (0, .ref (ad 19 0)), (1, .ref (ad 2 k1)), (2, .int a2), (3, .int a3), (4, .int x4_12)]) hx hb dX2_countNeeds_39 hl (by decide) rfl (fun ls hl => ?_)
          refine lv_iload hx hb dX2_countNeeds_41 (lv_at hl 0 rfl) ?_
          refine lv_if_lt (tgt := 64) hx hb dX2_countNeeds_43 (by decide) (fun c16 => ?_) (fun c16 => ?_)
          · have hw := hw.1 c16
            refine lv_iinc (v := (x4_12 + (1 : Int32))) (lv' := [(4, .int (x4_12 + (1 : Int32))), (5, .int r15), (0, .ref (ad 19 0)), (1, .ref (ad 2 k1)), (2, .int a2), (3, .int a3)]) hx hb dX2_countNeeds_64 hl (k := 5) rfl rfl (by decide) rfl (fun ls hl => ?_)
            refine lv_goto (tgt := 27) hx hb dX2_countNeeds_67 (by decide) ?_
            exact ihn10 _ _ _ _ _ hw hP hS (lv_sub hl [2, 3, 4, 5, 0] rfl)
          · have hw := hw.2 c16
            refine lv_iload hx hb dX2_countNeeds_46 (lv_at hl 0 rfl) ?_
            refine lv_bipush (v := (99 : Int32)) hx hb dX2_countNeeds_48 (by decide) ?_
            refine lv_icmp_gt (tgt := 64) hx hb dX2_countNeeds_50 (by decide) (fun c17 => ?_) (fun c17 => ?_)
            · have hw := hw.1 c17
              refine lv_iinc (v := (x4_12 + (1 : Int32))) (lv' := [(4, .int (x4_12 + (1 : Int32))), (5, .int r15), (0, .ref (ad 19 0)), (1, .ref (ad 2 k1)), (2, .int a2), (3, .int a3)]) hx hb dX2_countNeeds_64 hl (k := 5) rfl rfl (by decide) rfl (fun ls hl => ?_)
              refine lv_goto (tgt := 27) hx hb dX2_countNeeds_67 (by decide) ?_
              exact ihn10 _ _ _ _ _ hw hP hS (lv_sub hl [2, 3, 4, 5, 0] rfl)
            · have hw := hw.2 c17
              refine lv_aload_n hx hb dX2_countNeeds_53 rfl (lv_at hl 1 rfl) ?_
              refine g_get (v := .ref (ad 20 0)) hx hb hts hown hK hP (hLx.h (f := 19) (by decide)) (gC19 _ _ _ _) gcl2 iX2_countNeeds_X2 0 (by decide) mX2_countNeeds_1 rfl rfl dX2_countNeeds_54 ?_
              refine lv_iload hx hb dX2_countNeeds_57 (lv_at hl 0 rfl) ?_
              refine lv_dup2_11 hx hb dX2_countNeeds_59 rfl rfl ?_
              have hb18 := hw.1
              have hw := hw.2
              refine g_iald hx hb hK hP (hLx.h (f := 20) (by decide)) (gC20 _ _ _ _) hb18 dX2_countNeeds_60 ?_
              refine lv_iconst (v := (1 : Int32)) hx hb dX2_countNeeds_61 (by decide) ?_
              refine lv_iadd hx hb dX2_countNeeds_62 ?_
              have hb19 := hw.1
              have hw := hw.2
              refine g_iast hx hb hF hK hP hS (hLx.h (f := 20) (by decide)) (fun r => gC20 _ _ _ r) hb19 dX2_countNeeds_63 (fun M20 e21 H locs hP hS => ?_)
              have hw := hw M20 e21
              refine lv_iinc (v := (x4_12 + (1 : Int32))) (lv' := [(4, .int (x4_12 + (1 : Int32))), (5, .int r15), (0, .ref (ad 19 0)), (1, .ref (ad 2 k1)), (2, .int a2), (3, .int a3)]) hx hb dX2_countNeeds_64 hl (k := 5) rfl rfl (by decide) rfl (fun ls hl => ?_)
              refine lv_goto (tgt := 27) hx hb dX2_countNeeds_67 (by decide) ?_
              exact ihn10 _ _ _ _ _ hw hP hS (lv_sub hl [2, 3, 4, 5, 0] rfl)
    exact hlX2_countNeeds_L27 n24 _ _ _ _ _ hw hP hS (lv_sub hl [1, 2, 3, 4, 0] rfl)
  have hlX2_countNeeds_L3 : ∀ (n1 : Nat) (M2 : gW) (x4_3 : Int32) (H : Heap) (locs : List Loc) (ls : Array Slot), wX2_countNeeds_L3 (fun M8 x4_9 => (∃ n24 : Nat, wX2_countNeeds_L27 k1 a3 (fun M22 x4_23 => (K M22)) n24 M8 a2)) n1 M2 x4_3 → va_P D vwCl (gL E ad L M2) H → va_S A s.heap H locs → lv_has ls 6 [(0, .ref (ad 19 0)), (1, .ref (ad 2 k1)), (2, .int a2), (3, .int a3), (4, .int x4_3)] → W p l e (headSpec wsX2_countNeeds rmX2_countNeeds).room s m (([.ref (ad 19 0), .ref (ad 2 k1), .int a2, .int a3] : List Value).toArray) below meth c H locs 0 0 (MQ below (gQv D E ad L A K) ([.ref (ad 19 0), .ref (ad 2 k1), .int a2, .int a3] : List Value).toArray s 0 0 A) (F0 m 3 ls []) := by
    intro n1
    induction n1 with
    | zero => intro M2 x4_3 H locs ls hw; exact False.elim hw
    | succ n1 ihn1 =>
      intro M2 x4_3 H locs ls hw hP hS hl
      refine lv_iload hx hb dX2_countNeeds_3 (lv_at hl 4 rfl) ?_
      refine lv_bipush (v := (99 : Int32)) hx hb dX2_countNeeds_5 (by decide) ?_
      refine lv_icmp_gt (tgt := 24) hx hb dX2_countNeeds_7 (by decide) (fun c4 => ?_) (fun c4 => ?_)
      · have hw := hw.1 c4
        exact hxX2_countNeeds_L3_0 _ _ _ _ _ hw hP hS (lv_sub hl [0, 1, 2, 3, 4] rfl)
      · have hw := hw.2 c4
        refine lv_aload_n hx hb dX2_countNeeds_10 rfl (lv_at hl 0 rfl) ?_
        refine g_get (v := .ref (ad 20 0)) hx hb hts hown hK hP (hLx.h (f := 19) (by decide)) (gC19 _ _ _ _) gcl2 iX2_countNeeds_X2 0 (by decide) mX2_countNeeds_1 rfl rfl dX2_countNeeds_11 ?_
        refine lv_iload hx hb dX2_countNeeds_14 (lv_at hl 4 rfl) ?_
        refine lv_iconst (v := (0 : Int32)) hx hb dX2_countNeeds_16 (by decide) ?_
        have hb5 := hw.1
        have hw := hw.2
        refine g_iast hx hb hF hK hP hS (hLx.h (f := 20) (by decide)) (fun r => gC20 _ _ _ r) hb5 dX2_countNeeds_17 (fun M6 e7 H locs hP hS => ?_)
        have hw := hw M6 e7
        refine lv_iinc (v := (x4_3 + (1 : Int32))) (lv' := [(4, .int (x4_3 + (1 : Int32))), (0, .ref (ad 19 0)), (1, .ref (ad 2 k1)), (2, .int a2), (3, .int a3)]) hx hb dX2_countNeeds_18 hl (k := 4) rfl rfl (by decide) rfl (fun ls hl => ?_)
        refine lv_goto (tgt := 3) hx hb dX2_countNeeds_21 (by decide) ?_
        exact ihn1 _ _ _ _ _ hw hP hS (lv_sub hl [1, 2, 3, 4, 0] rfl)
  exact hlX2_countNeeds_L3 n25 _ _ _ _ _ hw hP hS (lv_sub hl [1, 2, 3, 4, 0] rfl)
abbrev rmX2_partWithNeed : Room := { frames := 3, cells := 0, slots := 0, locals := 62 }
theorem eX2_partWithNeed : yX2_partWithNeed.cls = RX2 ∧ yX2_partWithNeed.cls ≠ "java/lang/invoke/MethodHandle" ∧ yX2_partWithNeed.cls ≠ "java/lang/invoke/VarHandle" ∧ (parseMethodDescriptor yX2_partWithNeed.desc).map (fun d => d.parameters.length) = some 5 := by decide +kernel
set_option maxHeartbeats 4000000 in
set_option maxRecDepth 100000 in
theorem qX2_partWithNeed (l : Launch) (D : va_G) (E : Nat → ClassId) (ad : Nat → Nat → Nat) (L : List (Nat × Nat)) (A : Nat → Prop) (hF : gF E ad L A) (hLx : gLx L) (M0 : gW) (k0 : Nat) (a1 : Int32) (a2 : Int32) (a3 : Int32) (a4 : Int32) (hk0 : k0 < gN 2) (K : Int32 → gW → Prop) (hw : wX2_partWithNeed M0 k0 a1 a2 a3 a4 K) : Met l yX2_partWithNeed wsX2_partWithNeed rmX2_partWithNeed (va_Pc [.ref (ad 2 k0), .int a1, .int a2, .int a3, .int a4] (gPre D E ad L M0)) (gQi D E ad L A K) 0 0 A := by
  refine Met.ofW (cc := cX2_partWithNeed) (maxL := 7) (ret := (some .int)) (by decide) rfl ?_
  intro p e s m args below meth c s₁ B hml hv
  obtain ⟨rfl, hP, hK, hN⟩ := hv
  have hx := B.exec
  have hb := B.bytes
  have hr := B.returns
  have hts := atoms_spec (ws := wsX2_partWithNeed) B.pre
  have hown : s.vm.findClass RX2 = some m.cls := findClass_of_methodNamed B.named
  have hlocks := B.notSynchronized
  have S : CallFix p m c cX2_partWithNeed 7 s ([.ref (ad 2 k0), .int a1, .int a2, .int a3, .int a4] : List Value).toArray wsX2_partWithNeed RX2 := ⟨hx, hb, hml, hown, hts⟩
  have hS : va_S A s.heap s.heap [] := va_S.rf
  have hl := lv_entry ([.ref (ad 2 k0), .int a1, .int a2, .int a3, .int a4]) (n := 7) (Nat.le_of_ble_eq_true rfl)
  rw [lg_entry_eq]
  generalize (lg_sl ([.ref (ad 2 k0), .int a1, .int a2, .int a3, .int a4]) ++ List.replicate (7 - (lg_sl ([.ref (ad 2 k0), .int a1, .int a2, .int a3, .int a4])).length) Slot.unset).toArray = ls at hl ⊢
  have hl : lv_has ls 7 [(0, .ref (ad 2 k0)), (1, .int a1), (2, .int a2), (3, .int a3), (4, .int a4)] := hl
  refine lv_iload hx hb dX2_partWithNeed_0 (lv_at hl 4 rfl) ?_
  refine lv_istore (lv' := [(5, .int a4), (0, .ref (ad 2 k0)), (1, .int a1), (2, .int a2), (3, .int a3), (4, .int a4)]) hx hb dX2_partWithNeed_2 hl (by decide) rfl (fun ls hl => ?_)
  refine lv_iload_n hx hb dX2_partWithNeed_4 rfl (lv_at hl 2 rfl) ?_
  refine lv_istore (lv' := [(6, .int a1), (5, .int a4), (0, .ref (ad 2 k0)), (1, .int a1), (2, .int a2), (3, .int a3), (4, .int a4)]) hx hb dX2_partWithNeed_5 hl (by decide) rfl (fun ls hl => ?_)
  obtain ⟨n13, hw⟩ := hw
  have hxX2_partWithNeed_L7_0 : ∀ (M10 : gW) (x5_11 : Int32) (x6_12 : Int32) (H : Heap) (locs : List Loc) (ls : Array Slot), (K (-5 : Int32) M10) → va_P D vwCl (gL E ad L M10) H → va_S A s.heap H locs → lv_has ls 7 [(0, .ref (ad 2 k0)), (1, .int a1), (2, .int a2), (3, .int a3), (4, .int a4), (5, .int x5_11), (6, .int x6_12)] → W p l e (headSpec wsX2_partWithNeed rmX2_partWithNeed).room s m (([.ref (ad 2 k0), .int a1, .int a2, .int a3, .int a4] : List Value).toArray) below meth c H locs 0 0 (MQ below (gQi D E ad L A K) ([.ref (ad 2 k0), .int a1, .int a2, .int a3, .int a4] : List Value).toArray s 0 0 A) (F0 m 40 ls []) := by
    intro M10 x5_11 x6_12 H locs ls hw hP hS hl
    refine lv_bipush (v := (-5 : Int32)) hx hb dX2_partWithNeed_40 (by decide) ?_
    exact g_iret hx hb hr hlocks hw hP hS dX2_partWithNeed_42
  have hlX2_partWithNeed_L7 : ∀ (n1 : Nat) (M2 : gW) (x5_3 : Int32) (x6_4 : Int32) (H : Heap) (locs : List Loc) (ls : Array Slot), wX2_partWithNeed_L7 k0 a2 a3 K (fun M10 x5_11 x6_12 => (K (-5 : Int32) M10)) n1 M2 x5_3 x6_4 → va_P D vwCl (gL E ad L M2) H → va_S A s.heap H locs → lv_has ls 7 [(0, .ref (ad 2 k0)), (1, .int a1), (2, .int a2), (3, .int a3), (4, .int a4), (5, .int x5_3), (6, .int x6_4)] → W p l e (headSpec wsX2_partWithNeed rmX2_partWithNeed).room s m (([.ref (ad 2 k0), .int a1, .int a2, .int a3, .int a4] : List Value).toArray) below meth c H locs 0 0 (MQ below (gQi D E ad L A K) ([.ref (ad 2 k0), .int a1, .int a2, .int a3, .int a4] : List Value).toArray s 0 0 A) (F0 m 7 ls []) := by
    intro n1
    induction n1 with
    | zero => intro M2 x5_3 x6_4 H locs ls hw; exact False.elim hw
    | succ n1 ihn1 =>
      intro M2 x5_3 x6_4 H locs ls hw hP hS hl
      refine lv_iload hx hb dX2_partWithNeed_7 (lv_at hl 6 rfl) ?_
      refine lv_iload_n hx hb dX2_partWithNeed_9 rfl (lv_at hl 2 rfl) ?_
      refine lv_icmp_ge (tgt := 40) hx hb dX2_partWithNeed_10 (by decide) (fun c5 => ?_) (fun c5 => ?_)
      · have hw := hw.1 c5
        exact hxX2_partWithNeed_L7_0 _ _ _ _ _ _ hw hP hS (lv_sub hl [0, 1, 2, 3, 4, 5, 6] rfl)
      · have hw := hw.2 c5
        refine lv_aload_n hx hb dX2_partWithNeed_13 rfl (lv_at hl 0 rfl) ?_
        refine lv_iload hx hb dX2_partWithNeed_14 (lv_at hl 6 rfl) ?_
        refine g_Vi (As := [.int x6_4]) (rest := []) S hK hN hP hS (qX1_needOf l D E ad L A hF hLx M2 k0 x6_4 hk0 _ hw) (cwV 1 hts gX2_partWithNeed_X1_needOf rfl rfl rfl eX1_needOf ⟨Nat.le_of_ble_eq_true rfl, Nat.le_of_ble_eq_true rfl⟩) (hLx.h (f := 2) hk0) (gC2 _ _ _ _) gcl1 rfl rfl rfl hl.1 (Nat.le_of_ble_eq_true rfl) ⟨Nat.zero_le _, Nat.zero_le _⟩ dX2_partWithNeed_16 (fun r7 M6 H locs hw hP hS => ?_)
        refine lv_iload_n hx hb dX2_partWithNeed_19 rfl (lv_at hl 3 rfl) ?_
        refine lv_icmp_ne (tgt := 34) hx hb dX2_partWithNeed_20 (by decide) (fun c8 => ?_) (fun c8 => ?_)
        · have hw := hw.2 c8
          refine lv_iinc (v := (x6_4 + (1 : Int32))) (lv' := [(6, .int (x6_4 + (1 : Int32))), (0, .ref (ad 2 k0)), (1, .int a1), (2, .int a2), (3, .int a3), (4, .int a4), (5, .int x5_3)]) hx hb dX2_partWithNeed_34 hl (k := 6) rfl rfl (by decide) rfl (fun ls hl => ?_)
          refine lv_goto (tgt := 7) hx hb dX2_partWithNeed_37 (by decide) ?_
          exact ihn1 _ _ _ _ _ _ hw hP hS (lv_sub hl [1, 2, 3, 4, 5, 6, 0] rfl)
        · have hw := hw.1 c8
          refine lv_iload hx hb dX2_partWithNeed_23 (lv_at hl 5 rfl) ?_
          refine lv_if_ne (tgt := 31) hx hb dX2_partWithNeed_25 (by decide) (fun c9 => ?_) (fun c9 => ?_)
          · have hw := hw.2 c9
            refine lv_iinc (v := (x5_3 + (-1 : Int32))) (lv' := [(5, .int (x5_3 + (-1 : Int32))), (0, .ref (ad 2 k0)), (1, .int a1), (2, .int a2), (3, .int a3), (4, .int a4), (6, .int x6_4)]) hx hb dX2_partWithNeed_31 hl (k := 5) rfl rfl (by decide) rfl (fun ls hl => ?_)
            refine lv_iinc (v := (x6_4 + (1 : Int32))) (lv' := [(6, .int (x6_4 + (1 : Int32))), (5, .int (x5_3 + (-1 : Int32))), (0, .ref (ad 2 k0)), (1, .int a1), (2, .int a2), (3, .int a3), (4, .int a4)]) hx hb dX2_partWithNeed_34 hl (k := 6) rfl rfl (by decide) rfl (fun ls hl => ?_)
            refine lv_goto (tgt := 7) hx hb dX2_partWithNeed_37 (by decide) ?_
            exact ihn1 _ _ _ _ _ _ hw hP hS (lv_sub hl [2, 3, 4, 5, 6, 1, 0] rfl)
          · have hw := hw.1 c9
            refine lv_iload hx hb dX2_partWithNeed_28 (lv_at hl 6 rfl) ?_
            exact g_iret hx hb hr hlocks hw hP hS dX2_partWithNeed_30
  exact hlX2_partWithNeed_L7 n13 _ _ _ _ _ _ hw hP hS (lv_sub hl [2, 3, 4, 5, 6, 1, 0] rfl)
abbrev rmX2_partAt : Room := { frames := 4, cells := 0, slots := 0, locals := 88 }
theorem eX2_partAt : yX2_partAt.cls = RX2 ∧ yX2_partAt.cls ≠ "java/lang/invoke/MethodHandle" ∧ yX2_partAt.cls ≠ "java/lang/invoke/VarHandle" ∧ (parseMethodDescriptor yX2_partAt.desc).map (fun d => d.parameters.length) = some 4 := by decide +kernel
theorem iX2_partAt_X2 : ∀ w ∈ wsX20, w ∈ wsX2_partAt := fun _ h => List.mem_cons_of_mem _ (List.mem_append_left _ (List.mem_append_right _ (h)))
theorem mX2_partAt_1 : Cond.fieldLink RX2 9 "PracticeSheets$Ranking" "howMany" "[I" ∈ wsX2_partAt := List.mem_of_getElem? (i := 1) rfl
set_option maxHeartbeats 4000000 in
set_option maxRecDepth 100000 in
theorem qX2_partAt (l : Launch) (D : va_G) (E : Nat → ClassId) (ad : Nat → Nat → Nat) (L : List (Nat × Nat)) (A : Nat → Prop) (hF : gF E ad L A) (hLx : gLx L) (M0 : gW) (k1 : Nat) (a2 : Int32) (a3 : Int32) (a4 : Int32) (hk1 : k1 < gN 2) (K : Int32 → gW → Prop) (hw : wX2_partAt M0 k1 a2 a3 a4 K) : Met l yX2_partAt wsX2_partAt rmX2_partAt (va_Pc [.ref (ad 19 0), .ref (ad 2 k1), .int a2, .int a3, .int a4] (gPre D E ad L M0)) (gQi D E ad L A K) 0 0 A := by
  refine Met.ofW (cc := cX2_partAt) (maxL := 7) (ret := (some .int)) (by decide) rfl ?_
  intro p e s m args below meth c s₁ B hml hv
  obtain ⟨rfl, hP, hK, hN⟩ := hv
  have hx := B.exec
  have hb := B.bytes
  have hr := B.returns
  have hts := atoms_spec (ws := wsX2_partAt) B.pre
  have hown : s.vm.findClass RX2 = some m.cls := findClass_of_methodNamed B.named
  have hlocks := B.notSynchronized
  have S : CallFix p m c cX2_partAt 7 s ([.ref (ad 19 0), .ref (ad 2 k1), .int a2, .int a3, .int a4] : List Value).toArray wsX2_partAt RX2 := ⟨hx, hb, hml, hown, hts⟩
  have hS : va_S A s.heap s.heap [] := va_S.rf
  have hl := lv_entry ([.ref (ad 19 0), .ref (ad 2 k1), .int a2, .int a3, .int a4]) (n := 7) (Nat.le_of_ble_eq_true rfl)
  rw [lg_entry_eq]
  generalize (lg_sl ([.ref (ad 19 0), .ref (ad 2 k1), .int a2, .int a3, .int a4]) ++ List.replicate (7 - (lg_sl ([.ref (ad 19 0), .ref (ad 2 k1), .int a2, .int a3, .int a4])).length) Slot.unset).toArray = ls at hl ⊢
  have hl : lv_has ls 7 [(0, .ref (ad 19 0)), (1, .ref (ad 2 k1)), (2, .int a2), (3, .int a3), (4, .int a4)] := hl
  refine lv_aload_n hx hb dX2_partAt_0 rfl (lv_at hl 0 rfl) ?_
  refine lv_aload_n hx hb dX2_partAt_1 rfl (lv_at hl 1 rfl) ?_
  refine lv_iload_n hx hb dX2_partAt_2 rfl (lv_at hl 2 rfl) ?_
  refine lv_iload_n hx hb dX2_partAt_3 rfl (lv_at hl 3 rfl) ?_
  refine g_Vv (As := [.ref (ad 2 k1), .int a2, .int a3]) (rest := []) S hK hN hP hS (qX2_countNeeds l D E ad L A hF hLx M0 k1 a2 a3 hk1 _ hw) (cwV 3 hts gX2_partAt_X2_countNeeds rfl rfl rfl eX2_countNeeds ⟨Nat.le_of_ble_eq_true rfl, Nat.le_of_ble_eq_true rfl⟩) (hLx.h (f := 19) (by decide)) (gC19 _ _ _ _) gcl2 rfl rfl rfl hl.1 (Nat.le_of_ble_eq_true rfl) ⟨Nat.zero_le _, Nat.zero_le _⟩ dX2_partAt_4 (fun M1 H locs hw hP hS => ?_)
  refine lv_iload hx hb dX2_partAt_7 (lv_at hl 4 rfl) ?_
  refine lv_istore (lv' := [(5, .int a4), (0, .ref (ad 19 0)), (1, .ref (ad 2 k1)), (2, .int a2), (3, .int a3), (4, .int a4)]) hx hb dX2_partAt_9 hl (by decide) rfl (fun ls hl => ?_)
  refine lv_bipush (v := (99 : Int32)) hx hb dX2_partAt_11 (by decide) ?_
  refine lv_istore (lv' := [(6, .int (99 : Int32)), (5, .int a4), (0, .ref (ad 19 0)), (1, .ref (ad 2 k1)), (2, .int a2), (3, .int a3), (4, .int a4)]) hx hb dX2_partAt_13 hl (by decide) rfl (fun ls hl => ?_)
  obtain ⟨n15, hw⟩ := hw
  have hxX2_partAt_L15_0 : ∀ (M12 : gW) (x5_13 : Int32) (x6_14 : Int32) (H : Heap) (locs : List Loc) (ls : Array Slot), (K (-5 : Int32) M12) → va_P D vwCl (gL E ad L M12) H → va_S A s.heap H locs → lv_has ls 7 [(0, .ref (ad 19 0)), (1, .ref (ad 2 k1)), (2, .int a2), (3, .int a3), (4, .int a4), (5, .int x5_13), (6, .int x6_14)] → W p l e (headSpec wsX2_partAt rmX2_partAt).room s m (([.ref (ad 19 0), .ref (ad 2 k1), .int a2, .int a3, .int a4] : List Value).toArray) below meth c H locs 0 0 (MQ below (gQi D E ad L A K) ([.ref (ad 19 0), .ref (ad 2 k1), .int a2, .int a3, .int a4] : List Value).toArray s 0 0 A) (F0 m 61 ls []) := by
    intro M12 x5_13 x6_14 H locs ls hw hP hS hl
    refine lv_bipush (v := (-5 : Int32)) hx hb dX2_partAt_61 (by decide) ?_
    exact g_iret hx hb hr hlocks hw hP hS dX2_partAt_63
  have hlX2_partAt_L15 : ∀ (n2 : Nat) (M3 : gW) (x5_4 : Int32) (x6_5 : Int32) (H : Heap) (locs : List Loc) (ls : Array Slot), wX2_partAt_L15 k1 a2 a3 K (fun M12 x5_13 x6_14 => (K (-5 : Int32) M12)) n2 M3 x5_4 x6_5 → va_P D vwCl (gL E ad L M3) H → va_S A s.heap H locs → lv_has ls 7 [(0, .ref (ad 19 0)), (1, .ref (ad 2 k1)), (2, .int a2), (3, .int a3), (4, .int a4), (5, .int x5_4), (6, .int x6_5)] → W p l e (headSpec wsX2_partAt rmX2_partAt).room s m (([.ref (ad 19 0), .ref (ad 2 k1), .int a2, .int a3, .int a4] : List Value).toArray) below meth c H locs 0 0 (MQ below (gQi D E ad L A K) ([.ref (ad 19 0), .ref (ad 2 k1), .int a2, .int a3, .int a4] : List Value).toArray s 0 0 A) (F0 m 15 ls []) := by
    intro n2
    induction n2 with
    | zero => intro M3 x5_4 x6_5 H locs ls hw; exact False.elim hw
    | succ n2 ihn2 =>
      intro M3 x5_4 x6_5 H locs ls hw hP hS hl
      refine lv_iload hx hb dX2_partAt_15 (lv_at hl 6 rfl) ?_
      refine lv_if_le (tgt := 61) hx hb dX2_partAt_17 (by decide) (fun c6 => ?_) (fun c6 => ?_)
      · have hw := hw.1 c6
        exact hxX2_partAt_L15_0 _ _ _ _ _ _ hw hP hS (lv_sub hl [0, 1, 2, 3, 4, 5, 6] rfl)
      · have hw := hw.2 c6
        refine lv_iload hx hb dX2_partAt_20 (lv_at hl 5 rfl) ?_
        refine lv_aload_n hx hb dX2_partAt_22 rfl (lv_at hl 0 rfl) ?_
        refine g_get (v := .ref (ad 20 0)) hx hb hts hown hK hP (hLx.h (f := 19) (by decide)) (gC19 _ _ _ _) gcl2 iX2_partAt_X2 0 (by decide) mX2_partAt_1 rfl rfl dX2_partAt_23 ?_
        refine lv_iload hx hb dX2_partAt_26 (lv_at hl 6 rfl) ?_
        have hb7 := hw.1
        have hw := hw.2
        refine g_iald hx hb hK hP (hLx.h (f := 20) (by decide)) (gC20 _ _ _ _) hb7 dX2_partAt_28 ?_
        refine lv_icmp_ge (tgt := 43) hx hb dX2_partAt_29 (by decide) (fun c8 => ?_) (fun c8 => ?_)
        · have hw := hw.1 c8
          refine lv_iload hx hb dX2_partAt_43 (lv_at hl 5 rfl) ?_
          refine lv_aload_n hx hb dX2_partAt_45 rfl (lv_at hl 0 rfl) ?_
          refine g_get (v := .ref (ad 20 0)) hx hb hts hown hK hP (hLx.h (f := 19) (by decide)) (gC19 _ _ _ _) gcl2 iX2_partAt_X2 0 (by decide) mX2_partAt_1 rfl rfl dX2_partAt_46 ?_
          refine lv_iload hx hb dX2_partAt_49 (lv_at hl 6 rfl) ?_
          have hb9 := hw.1
          have hw := hw.2
          refine g_iald hx hb hK hP (hLx.h (f := 20) (by decide)) (gC20 _ _ _ _) hb9 dX2_partAt_51 ?_
          refine lv_isub hx hb dX2_partAt_52 ?_
          refine lv_istore (lv' := [(5, .int (x5_4 - (M3 20 0 x6_5.toNatClampNeg))), (0, .ref (ad 19 0)), (1, .ref (ad 2 k1)), (2, .int a2), (3, .int a3), (4, .int a4), (6, .int x6_5)]) hx hb dX2_partAt_53 hl (by decide) rfl (fun ls hl => ?_)
          refine lv_iinc (v := (x6_5 + (-1 : Int32))) (lv' := [(6, .int (x6_5 + (-1 : Int32))), (5, .int (x5_4 - (M3 20 0 x6_5.toNatClampNeg))), (0, .ref (ad 19 0)), (1, .ref (ad 2 k1)), (2, .int a2), (3, .int a3), (4, .int a4)]) hx hb dX2_partAt_55 hl (k := 6) rfl rfl (by decide) rfl (fun ls hl => ?_)
          refine lv_goto (tgt := 15) hx hb dX2_partAt_58 (by decide) ?_
          exact ihn2 _ _ _ _ _ _ hw hP hS (lv_sub hl [2, 3, 4, 5, 6, 1, 0] rfl)
        · have hw := hw.2 c8
          refine lv_aload_n hx hb dX2_partAt_32 rfl (lv_at hl 1 rfl) ?_
          refine lv_iload_n hx hb dX2_partAt_33 rfl (lv_at hl 2 rfl) ?_
          refine lv_iload_n hx hb dX2_partAt_34 rfl (lv_at hl 3 rfl) ?_
          refine lv_iload hx hb dX2_partAt_35 (lv_at hl 6 rfl) ?_
          refine lv_iload hx hb dX2_partAt_37 (lv_at hl 5 rfl) ?_
          refine g_Si (As := [.ref (ad 2 k1), .int a2, .int a3, .int x6_5, .int x5_4]) (rest := []) S hK hN hP hS (qX2_partWithNeed l D E ad L A hF hLx M3 k1 a2 a3 x6_5 x5_4 hk1 _ hw) (va_cwS 5 hts gX2_partAt_X2_partWithNeed rfl rfl rfl eX2_partWithNeed.2 ⟨Nat.le_of_ble_eq_true rfl, Nat.le_of_ble_eq_true rfl⟩) rfl rfl hl.1 (Nat.le_of_ble_eq_true rfl) ⟨Nat.zero_le _, Nat.zero_le _⟩ dX2_partAt_39 (fun r11 M10 H locs hw hP hS => ?_)
          exact g_iret hx hb hr hlocks hw hP hS dX2_partAt_42
  exact hlX2_partAt_L15 n15 _ _ _ _ _ _ hw hP hS (lv_sub hl [2, 3, 4, 5, 6, 1, 0] rfl)
abbrev rmX3_clear : Room := { frames := 0, cells := 0, slots := 0, locals := 0 }
theorem eX3_clear : yX3_clear.cls = RX3 ∧ yX3_clear.cls ≠ "java/lang/invoke/MethodHandle" ∧ yX3_clear.cls ≠ "java/lang/invoke/VarHandle" ∧ (parseMethodDescriptor yX3_clear.desc).map (fun d => d.parameters.length) = some 0 := by decide +kernel
theorem iX3_clear_X3 : ∀ w ∈ wsX30, w ∈ wsX3_clear := fun _ h => List.mem_cons_of_mem _ (List.mem_append_right _ (h))
theorem mX3_clear_1 : Cond.fieldLink RX3 18 "PracticeSheets$Sheet" "isCovered" "[Z" ∈ wsX3_clear := List.mem_of_getElem? (i := 1) rfl
theorem mX3_clear_2 : Cond.fieldLink RX3 22 "PracticeSheets$Sheet" "isTaken" "[Z" ∈ wsX3_clear := List.mem_of_getElem? (i := 2) rfl
theorem mX3_clear_3 : Cond.fieldLink RX3 25 "PracticeSheets$Sheet" "size" "I" ∈ wsX3_clear := List.mem_of_getElem? (i := 3) rfl
set_option maxHeartbeats 4000000 in
set_option maxRecDepth 100000 in
theorem qX3_clear (l : Launch) (D : va_G) (E : Nat → ClassId) (ad : Nat → Nat → Nat) (L : List (Nat × Nat)) (A : Nat → Prop) (hF : gF E ad L A) (hLx : gLx L) (M0 : gW)  (K : gW → Prop) (hw : wX3_clear M0 K) : Met l yX3_clear wsX3_clear rmX3_clear (va_Pc [.ref (ad 14 0)] (gPre D E ad L M0)) (gQv D E ad L A K) 0 0 A := by
  refine Met.ofW (cc := cX3_clear) (maxL := 2) (ret := none) (by decide) rfl ?_
  intro p e s m args below meth c s₁ B hml hv
  obtain ⟨rfl, hP, hK, hN⟩ := hv
  have hx := B.exec
  have hb := B.bytes
  have hr := B.returns
  have hts := atoms_spec (ws := wsX3_clear) B.pre
  have hown : s.vm.findClass RX3 = some m.cls := findClass_of_methodNamed B.named
  have hlocks := B.notSynchronized
  have S : CallFix p m c cX3_clear 2 s ([.ref (ad 14 0)] : List Value).toArray wsX3_clear RX3 := ⟨hx, hb, hml, hown, hts⟩
  have hS : va_S A s.heap s.heap [] := va_S.rf
  have hl := lv_entry ([.ref (ad 14 0)]) (n := 2) (Nat.le_of_ble_eq_true rfl)
  rw [lg_entry_eq]
  generalize (lg_sl ([.ref (ad 14 0)]) ++ List.replicate (2 - (lg_sl ([.ref (ad 14 0)])).length) Slot.unset).toArray = ls at hl ⊢
  have hl : lv_has ls 2 [(0, .ref (ad 14 0))] := hl
  refine lv_iconst (v := (0 : Int32)) hx hb dX3_clear_0 (by decide) ?_
  refine lv_istore_n (lv' := [(1, .int (0 : Int32)), (0, .ref (ad 14 0))]) hx hb dX3_clear_1 rfl hl (by decide) rfl (fun ls hl => ?_)
  obtain ⟨n22, hw⟩ := hw
  have hxX3_clear_L2_0 : ∀ (M8 : gW) (x1_9 : Int32) (H : Heap) (locs : List Loc) (ls : Array Slot), (∃ n21 : Nat, wX3_clear_L24 (fun M17 x1_18 => (∀ M19 : gW, M19 = gU M17 14 0 (upd (M17 14 0) 4 (0 : Int32)) → (K M19))) n21 M8 (0 : Int32)) → va_P D vwCl (gL E ad L M8) H → va_S A s.heap H locs → lv_has ls 2 [(0, .ref (ad 14 0)), (1, .int x1_9)] → W p l e (headSpec wsX3_clear rmX3_clear).room s m (([.ref (ad 14 0)] : List Value).toArray) below meth c H locs 0 0 (MQ below (gQv D E ad L A K) ([.ref (ad 14 0)] : List Value).toArray s 0 0 A) (F0 m 22 ls []) := by
    intro M8 x1_9 H locs ls hw hP hS hl
    refine lv_iconst (v := (0 : Int32)) hx hb dX3_clear_22 (by decide) ?_
    refine lv_istore_n (lv' := [(1, .int (0 : Int32)), (0, .ref (ad 14 0))]) hx hb dX3_clear_23 rfl hl (by decide) rfl (fun ls hl => ?_)
    obtain ⟨n21, hw⟩ := hw
    have hxX3_clear_L24_0 : ∀ (M17 : gW) (x1_18 : Int32) (H : Heap) (locs : List Loc) (ls : Array Slot), (∀ M19 : gW, M19 = gU M17 14 0 (upd (M17 14 0) 4 (0 : Int32)) → (K M19)) → va_P D vwCl (gL E ad L M17) H → va_S A s.heap H locs → lv_has ls 2 [(0, .ref (ad 14 0)), (1, .int x1_18)] → W p l e (headSpec wsX3_clear rmX3_clear).room s m (([.ref (ad 14 0)] : List Value).toArray) below meth c H locs 0 0 (MQ below (gQv D E ad L A K) ([.ref (ad 14 0)] : List Value).toArray s 0 0 A) (F0 m 43 ls []) := by
      intro M17 x1_18 H locs ls hw hP hS hl
      refine lv_aload_n hx hb dX3_clear_43 rfl (lv_at hl 0 rfl) ?_
      refine lv_iconst (v := (0 : Int32)) hx hb dX3_clear_44 (by decide) ?_
      refine g_put hx hb hF hts hown hK hP hS (hLx.h (f := 14) (by decide)) (gC14 _ _ _ _) gcl3 iX3_clear_X3 tyX3 tyX3_ok nmX3 4 (by decide) mX3_clear_3 rfl rfl rfl rfl (Nat.lt_of_lt_of_eq (by decide : 4 < 5) rfl) rfl dX3_clear_45 (fun M19 e20 H locs hP hS => ?_)
      have hw := hw M19 e20
      exact g_vret hx hb hr hlocks hw hP hS dX3_clear_48
    have hlX3_clear_L24 : ∀ (n10 : Nat) (M11 : gW) (x1_12 : Int32) (H : Heap) (locs : List Loc) (ls : Array Slot), wX3_clear_L24 (fun M17 x1_18 => (∀ M19 : gW, M19 = gU M17 14 0 (upd (M17 14 0) 4 (0 : Int32)) → (K M19))) n10 M11 x1_12 → va_P D vwCl (gL E ad L M11) H → va_S A s.heap H locs → lv_has ls 2 [(0, .ref (ad 14 0)), (1, .int x1_12)] → W p l e (headSpec wsX3_clear rmX3_clear).room s m (([.ref (ad 14 0)] : List Value).toArray) below meth c H locs 0 0 (MQ below (gQv D E ad L A K) ([.ref (ad 14 0)] : List Value).toArray s 0 0 A) (F0 m 24 ls []) := by
      intro n10
      induction n10 with
      | zero => intro M11 x1_12 H locs ls hw; exact False.elim hw
      | succ n10 ihn10 =>
        intro M11 x1_12 H locs ls hw hP hS hl
        refine lv_iload_n hx hb dX3_clear_24 rfl (lv_at hl 1 rfl) ?_
        refine lv_bipush (v := (20 : Int32)) hx hb dX3_clear_25 (by decide) ?_
        refine lv_icmp_ge (tgt := 43) hx hb dX3_clear_27 (by decide) (fun c13 => ?_) (fun c13 => ?_)
        · have hw := hw.1 c13
          exact hxX3_clear_L24_0 _ _ _ _ _ hw hP hS (lv_sub hl [0, 1] rfl)
        · have hw := hw.2 c13
          refine lv_aload_n hx hb dX3_clear_30 rfl (lv_at hl 0 rfl) ?_
          refine g_get (v := .ref (ad 18 0)) hx hb hts hown hK hP (hLx.h (f := 14) (by decide)) (gC14 _ _ _ _) gcl3 iX3_clear_X3 3 (by decide) mX3_clear_2 rfl rfl dX3_clear_31 ?_
          refine lv_iload_n hx hb dX3_clear_34 rfl (lv_at hl 1 rfl) ?_
          refine lv_iconst (v := (0 : Int32)) hx hb dX3_clear_35 (by decide) ?_
          have hb14 := hw.1
          have hw := hw.2
          refine g_zast hx hb hF hK hP hS (hLx.h (f := 18) (by decide)) (fun r => gC18 _ _ _ r) hb14 (by decide) dX3_clear_36 (fun M15 e16 H locs hP hS => ?_)
          have hw := hw M15 e16
          refine lv_iinc (v := (x1_12 + (1 : Int32))) (lv' := [(1, .int (x1_12 + (1 : Int32))), (0, .ref (ad 14 0))]) hx hb dX3_clear_37 hl (k := 1) rfl rfl (by decide) rfl (fun ls hl => ?_)
          refine lv_goto (tgt := 24) hx hb dX3_clear_40 (by decide) ?_
          exact ihn10 _ _ _ _ _ hw hP hS (lv_sub hl [1, 0] rfl)
    exact hlX3_clear_L24 n21 _ _ _ _ _ hw hP hS (lv_sub hl [1, 0] rfl)
  have hlX3_clear_L2 : ∀ (n1 : Nat) (M2 : gW) (x1_3 : Int32) (H : Heap) (locs : List Loc) (ls : Array Slot), wX3_clear_L2 (fun M8 x1_9 => (∃ n21 : Nat, wX3_clear_L24 (fun M17 x1_18 => (∀ M19 : gW, M19 = gU M17 14 0 (upd (M17 14 0) 4 (0 : Int32)) → (K M19))) n21 M8 (0 : Int32))) n1 M2 x1_3 → va_P D vwCl (gL E ad L M2) H → va_S A s.heap H locs → lv_has ls 2 [(0, .ref (ad 14 0)), (1, .int x1_3)] → W p l e (headSpec wsX3_clear rmX3_clear).room s m (([.ref (ad 14 0)] : List Value).toArray) below meth c H locs 0 0 (MQ below (gQv D E ad L A K) ([.ref (ad 14 0)] : List Value).toArray s 0 0 A) (F0 m 2 ls []) := by
    intro n1
    induction n1 with
    | zero => intro M2 x1_3 H locs ls hw; exact False.elim hw
    | succ n1 ihn1 =>
      intro M2 x1_3 H locs ls hw hP hS hl
      refine lv_iload_n hx hb dX3_clear_2 rfl (lv_at hl 1 rfl) ?_
      refine lv_sipush (v := (702 : Int32)) hx hb dX3_clear_3 (by decide) ?_
      refine lv_icmp_ge (tgt := 22) hx hb dX3_clear_6 (by decide) (fun c4 => ?_) (fun c4 => ?_)
      · have hw := hw.1 c4
        exact hxX3_clear_L2_0 _ _ _ _ _ hw hP hS (lv_sub hl [0, 1] rfl)
      · have hw := hw.2 c4
        refine lv_aload_n hx hb dX3_clear_9 rfl (lv_at hl 0 rfl) ?_
        refine g_get (v := .ref (ad 17 0)) hx hb hts hown hK hP (hLx.h (f := 14) (by decide)) (gC14 _ _ _ _) gcl3 iX3_clear_X3 2 (by decide) mX3_clear_1 rfl rfl dX3_clear_10 ?_
        refine lv_iload_n hx hb dX3_clear_13 rfl (lv_at hl 1 rfl) ?_
        refine lv_iconst (v := (0 : Int32)) hx hb dX3_clear_14 (by decide) ?_
        have hb5 := hw.1
        have hw := hw.2
        refine g_zast hx hb hF hK hP hS (hLx.h (f := 17) (by decide)) (fun r => gC17 _ _ _ r) hb5 (by decide) dX3_clear_15 (fun M6 e7 H locs hP hS => ?_)
        have hw := hw M6 e7
        refine lv_iinc (v := (x1_3 + (1 : Int32))) (lv' := [(1, .int (x1_3 + (1 : Int32))), (0, .ref (ad 14 0))]) hx hb dX3_clear_16 hl (k := 1) rfl rfl (by decide) rfl (fun ls hl => ?_)
        refine lv_goto (tgt := 2) hx hb dX3_clear_19 (by decide) ?_
        exact ihn1 _ _ _ _ _ hw hP hS (lv_sub hl [1, 0] rfl)
  exact hlX3_clear_L2 n22 _ _ _ _ _ hw hP hS (lv_sub hl [1, 0] rfl)
abbrev rmX3_gainOf : Room := { frames := 3, cells := 0, slots := 0, locals := 62 }
theorem eX3_gainOf : yX3_gainOf.cls = RX3 ∧ yX3_gainOf.cls ≠ "java/lang/invoke/MethodHandle" ∧ yX3_gainOf.cls ≠ "java/lang/invoke/VarHandle" ∧ (parseMethodDescriptor yX3_gainOf.desc).map (fun d => d.parameters.length) = some 2 := by decide +kernel
theorem iX3_gainOf_X6 : ∀ w ∈ wsX60, w ∈ wsX3_gainOf := fun _ h => List.mem_cons_of_mem _ (List.mem_append_left _ (List.mem_append_left _ (List.mem_append_left _ (List.mem_append_right _ (h)))))
theorem iX3_gainOf_X4 : ∀ w ∈ wsX40, w ∈ wsX3_gainOf := fun _ h => List.mem_cons_of_mem _ (List.mem_append_left _ (List.mem_append_left _ (List.mem_append_right _ (h))))
theorem mX3_gainOf_13 : Cond.initialized RX8 ∈ wsX3_gainOf := List.mem_of_getElem? (i := 13) rfl
theorem mX3_gainOf_12 : Cond.static yX8_isPart ∈ wsX3_gainOf := List.mem_of_getElem? (i := 12) rfl
theorem iX3_gainOf_X3 : ∀ w ∈ wsX30, w ∈ wsX3_gainOf := fun _ h => List.mem_cons_of_mem _ (List.mem_append_left _ (List.mem_append_right _ (h)))
theorem mX3_gainOf_1 : Cond.fieldLink RX3 18 "PracticeSheets$Sheet" "isCovered" "[Z" ∈ wsX3_gainOf := List.mem_of_getElem? (i := 1) rfl
set_option maxHeartbeats 4000000 in
set_option maxRecDepth 100000 in
theorem qX3_gainOf (l : Launch) (D : va_G) (E : Nat → ClassId) (ad : Nat → Nat → Nat) (L : List (Nat × Nat)) (A : Nat → Prop) (hF : gF E ad L A) (hLx : gLx L) (M0 : gW) (k1 : Nat) (k2 : Nat) (hk1 : k1 < gN 7) (hk2 : k2 < gN 1) (K : Int32 → gW → Prop) (hw : wX3_gainOf M0 k1 k2 K) : Met l yX3_gainOf wsX3_gainOf rmX3_gainOf (va_Pc [.ref (ad 14 0), .ref (ad 7 k1), .ref (ad 1 k2)] (gPre D E ad L M0)) (gQi D E ad L A K) 0 0 A := by
  refine Met.ofW (cc := cX3_gainOf) (maxL := 6) (ret := (some .int)) (by decide) rfl ?_
  intro p e s m args below meth c s₁ B hml hv
  obtain ⟨rfl, hP, hK, hN⟩ := hv
  have hx := B.exec
  have hb := B.bytes
  have hr := B.returns
  have hts := atoms_spec (ws := wsX3_gainOf) B.pre
  have hown : s.vm.findClass RX3 = some m.cls := findClass_of_methodNamed B.named
  have hlocks := B.notSynchronized
  have S : CallFix p m c cX3_gainOf 6 s ([.ref (ad 14 0), .ref (ad 7 k1), .ref (ad 1 k2)] : List Value).toArray wsX3_gainOf RX3 := ⟨hx, hb, hml, hown, hts⟩
  have hS : va_S A s.heap s.heap [] := va_S.rf
  have hl := lv_entry ([.ref (ad 14 0), .ref (ad 7 k1), .ref (ad 1 k2)]) (n := 6) (Nat.le_of_ble_eq_true rfl)
  rw [lg_entry_eq]
  generalize (lg_sl ([.ref (ad 14 0), .ref (ad 7 k1), .ref (ad 1 k2)]) ++ List.replicate (6 - (lg_sl ([.ref (ad 14 0), .ref (ad 7 k1), .ref (ad 1 k2)])).length) Slot.unset).toArray = ls at hl ⊢
  have hl : lv_has ls 6 [(0, .ref (ad 14 0)), (1, .ref (ad 7 k1)), (2, .ref (ad 1 k2))] := hl
  refine lv_iconst (v := (0 : Int32)) hx hb dX3_gainOf_0 (by decide) ?_
  refine lv_istore_n (lv' := [(3, .int (0 : Int32)), (0, .ref (ad 14 0)), (1, .ref (ad 7 k1)), (2, .ref (ad 1 k2))]) hx hb dX3_gainOf_1 rfl hl (by decide) rfl (fun ls hl => ?_)
  refine lv_iconst (v := (0 : Int32)) hx hb dX3_gainOf_2 (by decide) ?_
  refine lv_istore (lv' := [(4, .int (0 : Int32)), (3, .int (0 : Int32)), (0, .ref (ad 14 0)), (1, .ref (ad 7 k1)), (2, .ref (ad 1 k2))]) hx hb dX3_gainOf_3 hl (by decide) rfl (fun ls hl => ?_)
  obtain ⟨n24, hw⟩ := hw
  have hxX3_gainOf_L5_0 : ∀ (M21 : gW) (x3_22 : Int32) (x4_23 : Int32) (H : Heap) (locs : List Loc) (ls : Array Slot), (K x3_22 M21) → va_P D vwCl (gL E ad L M21) H → va_S A s.heap H locs → lv_has ls 6 [(0, .ref (ad 14 0)), (1, .ref (ad 7 k1)), (2, .ref (ad 1 k2)), (3, .int x3_22), (4, .int x4_23)] → W p l e (headSpec wsX3_gainOf rmX3_gainOf).room s m (([.ref (ad 14 0), .ref (ad 7 k1), .ref (ad 1 k2)] : List Value).toArray) below meth c H locs 0 0 (MQ below (gQi D E ad L A K) ([.ref (ad 14 0), .ref (ad 7 k1), .ref (ad 1 k2)] : List Value).toArray s 0 0 A) (F0 m 98 ls []) := by
    intro M21 x3_22 x4_23 H locs ls hw hP hS hl
    refine lv_iload_n hx hb dX3_gainOf_98 rfl (lv_at hl 3 rfl) ?_
    exact g_iret hx hb hr hlocks hw hP hS dX3_gainOf_99
  have hlX3_gainOf_L5 : ∀ (n1 : Nat) (M2 : gW) (x3_3 : Int32) (x4_4 : Int32) (H : Heap) (locs : List Loc) (ls : Array Slot), wX3_gainOf_L5 k1 k2 (fun M21 x3_22 x4_23 => (K x3_22 M21)) n1 M2 x3_3 x4_4 → va_P D vwCl (gL E ad L M2) H → va_S A s.heap H locs → lv_has ls 6 [(0, .ref (ad 14 0)), (1, .ref (ad 7 k1)), (2, .ref (ad 1 k2)), (3, .int x3_3), (4, .int x4_4)] → W p l e (headSpec wsX3_gainOf rmX3_gainOf).room s m (([.ref (ad 14 0), .ref (ad 7 k1), .ref (ad 1 k2)] : List Value).toArray) below meth c H locs 0 0 (MQ below (gQi D E ad L A K) ([.ref (ad 14 0), .ref (ad 7 k1), .ref (ad 1 k2)] : List Value).toArray s 0 0 A) (F0 m 5 ls []) := by
    intro n1
    induction n1 with
    | zero => intro M2 x3_3 x4_4 H locs ls hw; exact False.elim hw
    | succ n1 ihn1 =>
      intro M2 x3_3 x4_4 H locs ls hw hP hS hl
      refine lv_iload hx hb dX3_gainOf_5 (lv_at hl 4 rfl) ?_
      refine lv_aload_n hx hb dX3_gainOf_7 rfl (lv_at hl 1 rfl) ?_
      refine g_getN (v := .int (M2 7 k1 3)) hx hb hts hown hK hN hP (hLx.h (f := 7) hk1) (gC7 _ _ _ _) gcl6 iX3_gainOf_X6 3 (by decide) 7 rfl rfl rfl dX3_gainOf_8 ?_
      refine lv_icmp_ge (tgt := 98) hx hb dX3_gainOf_11 (by decide) (fun c5 => ?_) (fun c5 => ?_)
      · have hw := hw.1 c5
        exact hxX3_gainOf_L5_0 _ _ _ _ _ _ hw hP hS (lv_sub hl [0, 1, 2, 3, 4] rfl)
      · have hw := hw.2 c5
        refine lv_aload_n hx hb dX3_gainOf_14 rfl (lv_at hl 1 rfl) ?_
        refine g_getN (v := .ref (ad 9 k1)) hx hb hts hown hK hN hP (hLx.h (f := 7) hk1) (gC7 _ _ _ _) gcl6 iX3_gainOf_X6 1 (by decide) 2 rfl rfl rfl dX3_gainOf_15 ?_
        refine lv_iload hx hb dX3_gainOf_18 (lv_at hl 4 rfl) ?_
        have hb6 := hw.1
        have hw := hw.2
        refine g_iald hx hb hK hP (hLx.h (f := 9) hk1) (gC9 _ _ _ _) hb6 dX3_gainOf_20 ?_
        refine lv_istore (lv' := [(5, .int (M2 9 k1 x4_4.toNatClampNeg)), (0, .ref (ad 14 0)), (1, .ref (ad 7 k1)), (2, .ref (ad 1 k2)), (3, .int x3_3), (4, .int x4_4)]) hx hb dX3_gainOf_21 hl (by decide) rfl (fun ls hl => ?_)
        refine lv_aload_n hx hb dX3_gainOf_23 rfl (lv_at hl 3 rfl) ?_
        refine g_getN (v := .ref (ad 2 k2)) hx hb hts hown hK hN hP (hLx.h (f := 1) hk2) (gC1 _ _ _ _) gcl4 iX3_gainOf_X4 0 (by decide) 16 rfl rfl rfl dX3_gainOf_24 ?_
        refine lv_iload hx hb dX3_gainOf_27 (lv_at hl 0 rfl) ?_
        refine g_Vi (As := [.int (M2 9 k1 x4_4.toNatClampNeg)]) (rest := []) S hK hN hP hS (qX1_isUntried l D E ad L A hF hLx M2 k2 (M2 9 k1 x4_4.toNatClampNeg) hk2 _ hw) (cwV 1 hts gX3_gainOf_X1_isUntried rfl rfl rfl eX1_isUntried ⟨Nat.le_of_ble_eq_true rfl, Nat.le_of_ble_eq_true rfl⟩) (hLx.h (f := 2) hk2) (gC2 _ _ _ _) gcl1 rfl rfl rfl hl.1 (Nat.le_of_ble_eq_true rfl) ⟨Nat.zero_le _, Nat.zero_le _⟩ dX3_gainOf_29 (fun r8 M7 H locs hw hP hS => ?_)
        refine lv_if_eq (tgt := 45) hx hb dX3_gainOf_32 (by decide) (fun c9 => ?_) (fun c9 => ?_)
        · have hw := hw.1 c9
          refine lv_iload hx hb dX3_gainOf_45 (lv_at hl 0 rfl) ?_
          refine g_SNi (As := [.int (M2 9 k1 x4_4.toNatClampNeg)]) (rest := []) S hK hN hP hS (qX8_isPart l D E ad L A hF hLx M7 (M2 9 k1 x4_4.toNatClampNeg)  _ hw) ⟨va_cnB 1 hts gX3_gainOf_X8_isPart_n66 rfl rfl rfl (hN.2 5 _ rfl) (hts _ mX3_gainOf_13) eX8_isPart.2 ⟨Nat.le_of_ble_eq_true rfl, Nat.le_of_ble_eq_true rfl⟩, hts _ mX3_gainOf_12, trivial⟩ rfl rfl hl.1 (Nat.le_of_ble_eq_true rfl) ⟨Nat.zero_le _, Nat.zero_le _⟩ dX3_gainOf_47 (fun r11 M10 H locs hw hP hS => ?_)
          refine lv_if_eq (tgt := 80) hx hb dX3_gainOf_50 (by decide) (fun c12 => ?_) (fun c12 => ?_)
          · have hw := hw.1 c12
            refine lv_iload_n hx hb dX3_gainOf_80 rfl (lv_at hl 4 rfl) ?_
            refine lv_aload_n hx hb dX3_gainOf_81 rfl (lv_at hl 3 rfl) ?_
            refine g_getN (v := .ref (ad 2 k2)) hx hb hts hown hK hN hP (hLx.h (f := 1) hk2) (gC1 _ _ _ _) gcl4 iX3_gainOf_X4 0 (by decide) 16 rfl rfl rfl dX3_gainOf_82 ?_
            refine lv_iload hx hb dX3_gainOf_85 (lv_at hl 0 rfl) ?_
            refine g_Vi (As := [.int (M2 9 k1 x4_4.toNatClampNeg)]) (rest := [.int x3_3]) S hK hN hP hS (qX1_needOf l D E ad L A hF hLx M10 k2 (M2 9 k1 x4_4.toNatClampNeg) hk2 _ hw) (cwV 1 hts gX3_gainOf_X1_needOf rfl rfl rfl eX1_needOf ⟨Nat.le_of_ble_eq_true rfl, Nat.le_of_ble_eq_true rfl⟩) (hLx.h (f := 2) hk2) (gC2 _ _ _ _) gcl1 rfl rfl rfl hl.1 (Nat.le_of_ble_eq_true rfl) ⟨Nat.zero_le _, Nat.zero_le _⟩ dX3_gainOf_87 (fun r14 M13 H locs hw hP hS => ?_)
            refine lv_iadd hx hb dX3_gainOf_90 ?_
            refine lv_istore_n (lv' := [(3, .int (x3_3 + r14)), (5, .int (M2 9 k1 x4_4.toNatClampNeg)), (0, .ref (ad 14 0)), (1, .ref (ad 7 k1)), (2, .ref (ad 1 k2)), (4, .int x4_4)]) hx hb dX3_gainOf_91 rfl hl (by decide) rfl (fun ls hl => ?_)
            refine lv_iinc (v := (x4_4 + (1 : Int32))) (lv' := [(4, .int (x4_4 + (1 : Int32))), (3, .int (x3_3 + r14)), (5, .int (M2 9 k1 x4_4.toNatClampNeg)), (0, .ref (ad 14 0)), (1, .ref (ad 7 k1)), (2, .ref (ad 1 k2))]) hx hb dX3_gainOf_92 hl (k := 5) rfl rfl (by decide) rfl (fun ls hl => ?_)
            refine lv_goto (tgt := 5) hx hb dX3_gainOf_95 (by decide) ?_
            exact ihn1 _ _ _ _ _ _ hw hP hS (lv_sub hl [3, 4, 5, 1, 0] rfl)
          · have hw := hw.2 c12
            refine lv_aload_n hx hb dX3_gainOf_53 rfl (lv_at hl 1 rfl) ?_
            refine g_get (v := .ref (ad 17 0)) hx hb hts hown hK hP (hLx.h (f := 14) (by decide)) (gC14 _ _ _ _) gcl3 iX3_gainOf_X3 2 (by decide) mX3_gainOf_1 rfl rfl dX3_gainOf_54 ?_
            refine lv_iload hx hb dX3_gainOf_57 (lv_at hl 0 rfl) ?_
            have hb15 := hw.1
            have hw := hw.2
            refine g_zald hx hb hK hP (hLx.h (f := 17) (by decide)) (gC17 _ _ _ _) hb15 dX3_gainOf_59 ?_
            refine lv_if_eq (tgt := 80) hx hb dX3_gainOf_60 (by decide) (fun c16 => ?_) (fun c16 => ?_)
            · have hw := hw.1 c16
              refine lv_iload_n hx hb dX3_gainOf_80 rfl (lv_at hl 4 rfl) ?_
              refine lv_aload_n hx hb dX3_gainOf_81 rfl (lv_at hl 3 rfl) ?_
              refine g_getN (v := .ref (ad 2 k2)) hx hb hts hown hK hN hP (hLx.h (f := 1) hk2) (gC1 _ _ _ _) gcl4 iX3_gainOf_X4 0 (by decide) 16 rfl rfl rfl dX3_gainOf_82 ?_
              refine lv_iload hx hb dX3_gainOf_85 (lv_at hl 0 rfl) ?_
              refine g_Vi (As := [.int (M2 9 k1 x4_4.toNatClampNeg)]) (rest := [.int x3_3]) S hK hN hP hS (qX1_needOf l D E ad L A hF hLx M10 k2 (M2 9 k1 x4_4.toNatClampNeg) hk2 _ hw) (cwV 1 hts gX3_gainOf_X1_needOf rfl rfl rfl eX1_needOf ⟨Nat.le_of_ble_eq_true rfl, Nat.le_of_ble_eq_true rfl⟩) (hLx.h (f := 2) hk2) (gC2 _ _ _ _) gcl1 rfl rfl rfl hl.1 (Nat.le_of_ble_eq_true rfl) ⟨Nat.zero_le _, Nat.zero_le _⟩ dX3_gainOf_87 (fun r18 M17 H locs hw hP hS => ?_)
              refine lv_iadd hx hb dX3_gainOf_90 ?_
              refine lv_istore_n (lv' := [(3, .int (x3_3 + r18)), (5, .int (M2 9 k1 x4_4.toNatClampNeg)), (0, .ref (ad 14 0)), (1, .ref (ad 7 k1)), (2, .ref (ad 1 k2)), (4, .int x4_4)]) hx hb dX3_gainOf_91 rfl hl (by decide) rfl (fun ls hl => ?_)
              refine lv_iinc (v := (x4_4 + (1 : Int32))) (lv' := [(4, .int (x4_4 + (1 : Int32))), (3, .int (x3_3 + r18)), (5, .int (M2 9 k1 x4_4.toNatClampNeg)), (0, .ref (ad 14 0)), (1, .ref (ad 7 k1)), (2, .ref (ad 1 k2))]) hx hb dX3_gainOf_92 hl (k := 5) rfl rfl (by decide) rfl (fun ls hl => ?_)
              refine lv_goto (tgt := 5) hx hb dX3_gainOf_95 (by decide) ?_
              exact ihn1 _ _ _ _ _ _ hw hP hS (lv_sub hl [3, 4, 5, 1, 0] rfl)
            · have hw := hw.2 c16
              refine lv_iload_n hx hb dX3_gainOf_63 rfl (lv_at hl 4 rfl) ?_
              refine lv_aload_n hx hb dX3_gainOf_64 rfl (lv_at hl 3 rfl) ?_
              refine g_getN (v := .ref (ad 2 k2)) hx hb hts hown hK hN hP (hLx.h (f := 1) hk2) (gC1 _ _ _ _) gcl4 iX3_gainOf_X4 0 (by decide) 16 rfl rfl rfl dX3_gainOf_65 ?_
              refine lv_iload hx hb dX3_gainOf_68 (lv_at hl 0 rfl) ?_
              refine g_Vi (As := [.int (M2 9 k1 x4_4.toNatClampNeg)]) (rest := [.int x3_3]) S hK hN hP hS (qX1_needOf l D E ad L A hF hLx M10 k2 (M2 9 k1 x4_4.toNatClampNeg) hk2 _ hw) (cwV 1 hts gX3_gainOf_X1_needOf rfl rfl rfl eX1_needOf ⟨Nat.le_of_ble_eq_true rfl, Nat.le_of_ble_eq_true rfl⟩) (hLx.h (f := 2) hk2) (gC2 _ _ _ _) gcl1 rfl rfl rfl hl.1 (Nat.le_of_ble_eq_true rfl) ⟨Nat.zero_le _, Nat.zero_le _⟩ dX3_gainOf_70 (fun r20 M19 H locs hw hP hS => ?_)
              refine lv_iconst (v := (2 : Int32)) hx hb dX3_gainOf_73 (by decide) ?_
              refine lv_idiv hx hb dX3_gainOf_74 (by decide) ?_
              refine lv_iadd hx hb dX3_gainOf_75 ?_
              refine lv_istore_n (lv' := [(3, .int (x3_3 + (r20 / (2 : Int32)))), (5, .int (M2 9 k1 x4_4.toNatClampNeg)), (0, .ref (ad 14 0)), (1, .ref (ad 7 k1)), (2, .ref (ad 1 k2)), (4, .int x4_4)]) hx hb dX3_gainOf_76 rfl hl (by decide) rfl (fun ls hl => ?_)
              refine lv_goto (tgt := 92) hx hb dX3_gainOf_77 (by decide) ?_
              refine lv_iinc (v := (x4_4 + (1 : Int32))) (lv' := [(4, .int (x4_4 + (1 : Int32))), (3, .int (x3_3 + (r20 / (2 : Int32)))), (5, .int (M2 9 k1 x4_4.toNatClampNeg)), (0, .ref (ad 14 0)), (1, .ref (ad 7 k1)), (2, .ref (ad 1 k2))]) hx hb dX3_gainOf_92 hl (k := 5) rfl rfl (by decide) rfl (fun ls hl => ?_)
              refine lv_goto (tgt := 5) hx hb dX3_gainOf_95 (by decide) ?_
              exact ihn1 _ _ _ _ _ _ hw hP hS (lv_sub hl [3, 4, 5, 1, 0] rfl)
        · have hw := hw.2 c9
          refine lv_iload_n hx hb dX3_gainOf_35 rfl (lv_at hl 4 rfl) ?_
          refine lv_aload_n hx hb dX3_gainOf_36 rfl (lv_at hl 3 rfl) ?_
          refine g_getN (v := .int (M7 1 k2 3)) hx hb hts hown hK hN hP (hLx.h (f := 1) hk2) (gC1 _ _ _ _) gcl4 iX3_gainOf_X4 3 (by decide) 21 rfl rfl rfl dX3_gainOf_37 ?_
          refine lv_iadd hx hb dX3_gainOf_40 ?_
          refine lv_istore_n (lv' := [(3, .int (x3_3 + (M7 1 k2 3))), (5, .int (M2 9 k1 x4_4.toNatClampNeg)), (0, .ref (ad 14 0)), (1, .ref (ad 7 k1)), (2, .ref (ad 1 k2)), (4, .int x4_4)]) hx hb dX3_gainOf_41 rfl hl (by decide) rfl (fun ls hl => ?_)
          refine lv_goto (tgt := 92) hx hb dX3_gainOf_42 (by decide) ?_
          refine lv_iinc (v := (x4_4 + (1 : Int32))) (lv' := [(4, .int (x4_4 + (1 : Int32))), (3, .int (x3_3 + (M7 1 k2 3))), (5, .int (M2 9 k1 x4_4.toNatClampNeg)), (0, .ref (ad 14 0)), (1, .ref (ad 7 k1)), (2, .ref (ad 1 k2))]) hx hb dX3_gainOf_92 hl (k := 5) rfl rfl (by decide) rfl (fun ls hl => ?_)
          refine lv_goto (tgt := 5) hx hb dX3_gainOf_95 (by decide) ?_
          exact ihn1 _ _ _ _ _ _ hw hP hS (lv_sub hl [3, 4, 5, 1, 0] rfl)
  exact hlX3_gainOf_L5 n24 _ _ _ _ _ _ hw hP hS (lv_sub hl [2, 3, 4, 1, 0] rfl)
abbrev rmX3_addLine : Room := { frames := 1, cells := 0, slots := 0, locals := 20 }
theorem eX3_addLine : yX3_addLine.cls = RX3 ∧ yX3_addLine.cls ≠ "java/lang/invoke/MethodHandle" ∧ yX3_addLine.cls ≠ "java/lang/invoke/VarHandle" ∧ (parseMethodDescriptor yX3_addLine.desc).map (fun d => d.parameters.length) = some 3 := by decide +kernel
theorem iX3_addLine_X3 : ∀ w ∈ wsX30, w ∈ wsX3_addLine := fun _ h => List.mem_cons_of_mem _ (List.mem_append_left _ (List.mem_append_right _ (h)))
theorem mX3_addLine_1 : Cond.fieldLink RX3 9 "PracticeSheets$Sheet" "words" "[I" ∈ wsX3_addLine := List.mem_of_getElem? (i := 1) rfl
theorem mX3_addLine_2 : Cond.fieldLink RX3 25 "PracticeSheets$Sheet" "size" "I" ∈ wsX3_addLine := List.mem_of_getElem? (i := 2) rfl
theorem mX3_addLine_3 : Cond.fieldLink RX3 15 "PracticeSheets$Sheet" "gains" "[I" ∈ wsX3_addLine := List.mem_of_getElem? (i := 3) rfl
theorem mX3_addLine_4 : Cond.fieldLink RX3 22 "PracticeSheets$Sheet" "isTaken" "[Z" ∈ wsX3_addLine := List.mem_of_getElem? (i := 4) rfl
theorem iX3_addLine_X6 : ∀ w ∈ wsX60, w ∈ wsX3_addLine := fun _ h => List.mem_cons_of_mem _ (List.mem_append_right _ (h))
theorem mX3_addLine_7 : Cond.initialized RX8 ∈ wsX3_addLine := List.mem_of_getElem? (i := 7) rfl
theorem mX3_addLine_6 : Cond.static yX8_isPart ∈ wsX3_addLine := List.mem_of_getElem? (i := 6) rfl
theorem mX3_addLine_5 : Cond.fieldLink RX3 18 "PracticeSheets$Sheet" "isCovered" "[Z" ∈ wsX3_addLine := List.mem_of_getElem? (i := 5) rfl
set_option maxHeartbeats 4000000 in
set_option maxRecDepth 100000 in
theorem qX3_addLine (l : Launch) (D : va_G) (E : Nat → ClassId) (ad : Nat → Nat → Nat) (L : List (Nat × Nat)) (A : Nat → Prop) (hF : gF E ad L A) (hLx : gLx L) (M0 : gW) (a1 : Int32) (a2 : Int32) (k3 : Nat) (hk3 : k3 < gN 7) (K : gW → Prop) (hw : wX3_addLine M0 a1 a2 k3 K) : Met l yX3_addLine wsX3_addLine rmX3_addLine (va_Pc [.ref (ad 14 0), .int a1, .int a2, .ref (ad 7 k3)] (gPre D E ad L M0)) (gQv D E ad L A K) 0 0 A := by
  refine Met.ofW (cc := cX3_addLine) (maxL := 5) (ret := none) (by decide) rfl ?_
  intro p e s m args below meth c s₁ B hml hv
  obtain ⟨rfl, hP, hK, hN⟩ := hv
  have hx := B.exec
  have hb := B.bytes
  have hr := B.returns
  have hts := atoms_spec (ws := wsX3_addLine) B.pre
  have hown : s.vm.findClass RX3 = some m.cls := findClass_of_methodNamed B.named
  have hlocks := B.notSynchronized
  have S : CallFix p m c cX3_addLine 5 s ([.ref (ad 14 0), .int a1, .int a2, .ref (ad 7 k3)] : List Value).toArray wsX3_addLine RX3 := ⟨hx, hb, hml, hown, hts⟩
  have hS : va_S A s.heap s.heap [] := va_S.rf
  have hl := lv_entry ([.ref (ad 14 0), .int a1, .int a2, .ref (ad 7 k3)]) (n := 5) (Nat.le_of_ble_eq_true rfl)
  rw [lg_entry_eq]
  generalize (lg_sl ([.ref (ad 14 0), .int a1, .int a2, .ref (ad 7 k3)]) ++ List.replicate (5 - (lg_sl ([.ref (ad 14 0), .int a1, .int a2, .ref (ad 7 k3)])).length) Slot.unset).toArray = ls at hl ⊢
  have hl : lv_has ls 5 [(0, .ref (ad 14 0)), (1, .int a1), (2, .int a2), (3, .ref (ad 7 k3))] := hl
  refine lv_aload_n hx hb dX3_addLine_0 rfl (lv_at hl 0 rfl) ?_
  refine g_get (v := .ref (ad 15 0)) hx hb hts hown hK hP (hLx.h (f := 14) (by decide)) (gC14 _ _ _ _) gcl3 iX3_addLine_X3 0 (by decide) mX3_addLine_1 rfl rfl dX3_addLine_1 ?_
  refine lv_aload_n hx hb dX3_addLine_4 rfl (lv_at hl 0 rfl) ?_
  refine g_get (v := .int (M0 14 0 4)) hx hb hts hown hK hP (hLx.h (f := 14) (by decide)) (gC14 _ _ _ _) gcl3 iX3_addLine_X3 4 (by decide) mX3_addLine_2 rfl rfl dX3_addLine_5 ?_
  refine lv_iload_n hx hb dX3_addLine_8 rfl (lv_at hl 1 rfl) ?_
  have hb1 := hw.1
  have hw := hw.2
  refine g_iast hx hb hF hK hP hS (hLx.h (f := 15) (by decide)) (fun r => gC15 _ _ _ r) hb1 dX3_addLine_9 (fun M2 e3 H locs hP hS => ?_)
  have hw := hw M2 e3
  refine lv_aload_n hx hb dX3_addLine_10 rfl (lv_at hl 0 rfl) ?_
  refine g_get (v := .ref (ad 16 0)) hx hb hts hown hK hP (hLx.h (f := 14) (by decide)) (gC14 _ _ _ _) gcl3 iX3_addLine_X3 1 (by decide) mX3_addLine_3 rfl rfl dX3_addLine_11 ?_
  refine lv_aload_n hx hb dX3_addLine_14 rfl (lv_at hl 0 rfl) ?_
  refine g_get (v := .int (M2 14 0 4)) hx hb hts hown hK hP (hLx.h (f := 14) (by decide)) (gC14 _ _ _ _) gcl3 iX3_addLine_X3 4 (by decide) mX3_addLine_2 rfl rfl dX3_addLine_15 ?_
  refine lv_iload_n hx hb dX3_addLine_18 rfl (lv_at hl 2 rfl) ?_
  have hb4 := hw.1
  have hw := hw.2
  refine g_iast hx hb hF hK hP hS (hLx.h (f := 16) (by decide)) (fun r => gC16 _ _ _ r) hb4 dX3_addLine_19 (fun M5 e6 H locs hP hS => ?_)
  have hw := hw M5 e6
  refine lv_aload_n hx hb dX3_addLine_20 rfl (lv_at hl 0 rfl) ?_
  refine lv_dup hx hb dX3_addLine_21 rfl ?_
  refine g_get (v := .int (M5 14 0 4)) hx hb hts hown hK hP (hLx.h (f := 14) (by decide)) (gC14 _ _ _ _) gcl3 iX3_addLine_X3 4 (by decide) mX3_addLine_2 rfl rfl dX3_addLine_22 ?_
  refine lv_iconst (v := (1 : Int32)) hx hb dX3_addLine_25 (by decide) ?_
  refine lv_iadd hx hb dX3_addLine_26 ?_
  refine g_put hx hb hF hts hown hK hP hS (hLx.h (f := 14) (by decide)) (gC14 _ _ _ _) gcl3 iX3_addLine_X3 tyX3 tyX3_ok nmX3 4 (by decide) mX3_addLine_2 rfl rfl rfl rfl (Nat.lt_of_lt_of_eq (by decide : 4 < 5) rfl) rfl dX3_addLine_27 (fun M7 e8 H locs hP hS => ?_)
  have hw := hw M7 e8
  refine lv_aload_n hx hb dX3_addLine_30 rfl (lv_at hl 0 rfl) ?_
  refine g_get (v := .ref (ad 18 0)) hx hb hts hown hK hP (hLx.h (f := 14) (by decide)) (gC14 _ _ _ _) gcl3 iX3_addLine_X3 3 (by decide) mX3_addLine_4 rfl rfl dX3_addLine_31 ?_
  refine lv_iload_n hx hb dX3_addLine_34 rfl (lv_at hl 1 rfl) ?_
  refine lv_iconst (v := (1 : Int32)) hx hb dX3_addLine_35 (by decide) ?_
  have hb9 := hw.1
  have hw := hw.2
  refine g_zast hx hb hF hK hP hS (hLx.h (f := 18) (by decide)) (fun r => gC18 _ _ _ r) hb9 (by decide) dX3_addLine_36 (fun M10 e11 H locs hP hS => ?_)
  have hw := hw M10 e11
  refine lv_iconst (v := (0 : Int32)) hx hb dX3_addLine_37 (by decide) ?_
  refine lv_istore (lv' := [(4, .int (0 : Int32)), (0, .ref (ad 14 0)), (1, .int a1), (2, .int a2), (3, .ref (ad 7 k3))]) hx hb dX3_addLine_38 hl (by decide) rfl (fun ls hl => ?_)
  obtain ⟨n26, hw⟩ := hw
  have hxX3_addLine_L40_0 : ∀ (M24 : gW) (x4_25 : Int32) (H : Heap) (locs : List Loc) (ls : Array Slot), (K M24) → va_P D vwCl (gL E ad L M24) H → va_S A s.heap H locs → lv_has ls 5 [(0, .ref (ad 14 0)), (1, .int a1), (2, .int a2), (3, .ref (ad 7 k3)), (4, .int x4_25)] → W p l e (headSpec wsX3_addLine rmX3_addLine).room s m (([.ref (ad 14 0), .int a1, .int a2, .ref (ad 7 k3)] : List Value).toArray) below meth c H locs 0 0 (MQ below (gQv D E ad L A K) ([.ref (ad 14 0), .int a1, .int a2, .ref (ad 7 k3)] : List Value).toArray s 0 0 A) (F0 m 81 ls []) := by
    intro M24 x4_25 H locs ls hw hP hS hl
    exact g_vret hx hb hr hlocks hw hP hS dX3_addLine_81
  have hlX3_addLine_L40 : ∀ (n12 : Nat) (M13 : gW) (x4_14 : Int32) (H : Heap) (locs : List Loc) (ls : Array Slot), wX3_addLine_L40 k3 (fun M24 x4_25 => (K M24)) n12 M13 x4_14 → va_P D vwCl (gL E ad L M13) H → va_S A s.heap H locs → lv_has ls 5 [(0, .ref (ad 14 0)), (1, .int a1), (2, .int a2), (3, .ref (ad 7 k3)), (4, .int x4_14)] → W p l e (headSpec wsX3_addLine rmX3_addLine).room s m (([.ref (ad 14 0), .int a1, .int a2, .ref (ad 7 k3)] : List Value).toArray) below meth c H locs 0 0 (MQ below (gQv D E ad L A K) ([.ref (ad 14 0), .int a1, .int a2, .ref (ad 7 k3)] : List Value).toArray s 0 0 A) (F0 m 40 ls []) := by
    intro n12
    induction n12 with
    | zero => intro M13 x4_14 H locs ls hw; exact False.elim hw
    | succ n12 ihn12 =>
      intro M13 x4_14 H locs ls hw hP hS hl
      refine lv_iload hx hb dX3_addLine_40 (lv_at hl 4 rfl) ?_
      refine lv_aload_n hx hb dX3_addLine_42 rfl (lv_at hl 3 rfl) ?_
      refine g_getN (v := .int (M13 7 k3 3)) hx hb hts hown hK hN hP (hLx.h (f := 7) hk3) (gC7 _ _ _ _) gcl6 iX3_addLine_X6 3 (by decide) 7 rfl rfl rfl dX3_addLine_43 ?_
      refine lv_icmp_ge (tgt := 81) hx hb dX3_addLine_46 (by decide) (fun c15 => ?_) (fun c15 => ?_)
      · have hw := hw.1 c15
        exact hxX3_addLine_L40_0 _ _ _ _ _ hw hP hS (lv_sub hl [0, 1, 2, 3, 4] rfl)
      · have hw := hw.2 c15
        refine lv_aload_n hx hb dX3_addLine_49 rfl (lv_at hl 3 rfl) ?_
        refine g_getN (v := .ref (ad 9 k3)) hx hb hts hown hK hN hP (hLx.h (f := 7) hk3) (gC7 _ _ _ _) gcl6 iX3_addLine_X6 1 (by decide) 2 rfl rfl rfl dX3_addLine_50 ?_
        refine lv_iload hx hb dX3_addLine_53 (lv_at hl 4 rfl) ?_
        have hb16 := hw.1
        have hw := hw.2
        refine g_iald hx hb hK hP (hLx.h (f := 9) hk3) (gC9 _ _ _ _) hb16 dX3_addLine_55 ?_
        refine g_SNi (As := [.int (M13 9 k3 x4_14.toNatClampNeg)]) (rest := []) S hK hN hP hS (qX8_isPart l D E ad L A hF hLx M13 (M13 9 k3 x4_14.toNatClampNeg)  _ hw) ⟨va_cnB 1 hts gX3_addLine_X8_isPart_n66 rfl rfl rfl (hN.2 5 _ rfl) (hts _ mX3_addLine_7) eX8_isPart.2 ⟨Nat.le_of_ble_eq_true rfl, Nat.le_of_ble_eq_true rfl⟩, hts _ mX3_addLine_6, trivial⟩ rfl rfl hl.1 (Nat.le_of_ble_eq_true rfl) ⟨Nat.zero_le _, Nat.zero_le _⟩ dX3_addLine_56 (fun r18 M17 H locs hw hP hS => ?_)
        refine lv_if_eq (tgt := 75) hx hb dX3_addLine_59 (by decide) (fun c19 => ?_) (fun c19 => ?_)
        · have hw := hw.1 c19
          refine lv_iinc (v := (x4_14 + (1 : Int32))) (lv' := [(4, .int (x4_14 + (1 : Int32))), (0, .ref (ad 14 0)), (1, .int a1), (2, .int a2), (3, .ref (ad 7 k3))]) hx hb dX3_addLine_75 hl (k := 4) rfl rfl (by decide) rfl (fun ls hl => ?_)
          refine lv_goto (tgt := 40) hx hb dX3_addLine_78 (by decide) ?_
          exact ihn12 _ _ _ _ _ hw hP hS (lv_sub hl [1, 2, 3, 4, 0] rfl)
        · have hw := hw.2 c19
          refine lv_aload_n hx hb dX3_addLine_62 rfl (lv_at hl 0 rfl) ?_
          refine g_get (v := .ref (ad 17 0)) hx hb hts hown hK hP (hLx.h (f := 14) (by decide)) (gC14 _ _ _ _) gcl3 iX3_addLine_X3 2 (by decide) mX3_addLine_5 rfl rfl dX3_addLine_63 ?_
          refine lv_aload_n hx hb dX3_addLine_66 rfl (lv_at hl 3 rfl) ?_
          refine g_getN (v := .ref (ad 9 k3)) hx hb hts hown hK hN hP (hLx.h (f := 7) hk3) (gC7 _ _ _ _) gcl6 iX3_addLine_X6 1 (by decide) 2 rfl rfl rfl dX3_addLine_67 ?_
          refine lv_iload hx hb dX3_addLine_70 (lv_at hl 4 rfl) ?_
          have hb20 := hw.1
          have hw := hw.2
          refine g_iald hx hb hK hP (hLx.h (f := 9) hk3) (gC9 _ _ _ _) hb20 dX3_addLine_72 ?_
          refine lv_iconst (v := (1 : Int32)) hx hb dX3_addLine_73 (by decide) ?_
          have hb21 := hw.1
          have hw := hw.2
          refine g_zast hx hb hF hK hP hS (hLx.h (f := 17) (by decide)) (fun r => gC17 _ _ _ r) hb21 (by decide) dX3_addLine_74 (fun M22 e23 H locs hP hS => ?_)
          have hw := hw M22 e23
          refine lv_iinc (v := (x4_14 + (1 : Int32))) (lv' := [(4, .int (x4_14 + (1 : Int32))), (0, .ref (ad 14 0)), (1, .int a1), (2, .int a2), (3, .ref (ad 7 k3))]) hx hb dX3_addLine_75 hl (k := 4) rfl rfl (by decide) rfl (fun ls hl => ?_)
          refine lv_goto (tgt := 40) hx hb dX3_addLine_78 (by decide) ?_
          exact ihn12 _ _ _ _ _ hw hP hS (lv_sub hl [1, 2, 3, 4, 0] rfl)
  exact hlX3_addLine_L40 n26 _ _ _ _ _ hw hP hS (lv_sub hl [1, 2, 3, 4, 0] rfl)
abbrev rmX3_chooseLine : Room := { frames := 4, cells := 0, slots := 0, locals := 87 }
theorem eX3_chooseLine : yX3_chooseLine.cls = RX3 ∧ yX3_chooseLine.cls ≠ "java/lang/invoke/MethodHandle" ∧ yX3_chooseLine.cls ≠ "java/lang/invoke/VarHandle" ∧ (parseMethodDescriptor yX3_chooseLine.desc).map (fun d => d.parameters.length) = some 1 := by decide +kernel
theorem iX3_chooseLine_X4 : ∀ w ∈ wsX40, w ∈ wsX3_chooseLine := fun _ h => List.mem_cons_of_mem _ (List.mem_append_left _ (List.mem_append_left _ (List.mem_append_left _ (List.mem_append_left _ (List.mem_append_right _ (h))))))
theorem iX3_chooseLine_X7 : ∀ w ∈ wsX70, w ∈ wsX3_chooseLine := fun _ h => List.mem_cons_of_mem _ (List.mem_append_left _ (List.mem_append_left _ (List.mem_append_left _ (List.mem_append_right _ (h)))))
theorem iX3_chooseLine_X3 : ∀ w ∈ wsX30, w ∈ wsX3_chooseLine := fun _ h => List.mem_cons_of_mem _ (List.mem_append_left _ (List.mem_append_left _ (List.mem_append_right _ (h))))
theorem mX3_chooseLine_1 : Cond.fieldLink RX3 22 "PracticeSheets$Sheet" "isTaken" "[Z" ∈ wsX3_chooseLine := List.mem_of_getElem? (i := 1) rfl
theorem iX3_chooseLine_X6 : ∀ w ∈ wsX60, w ∈ wsX3_chooseLine := fun _ h => List.mem_cons_of_mem _ (List.mem_append_left _ (List.mem_append_right _ (h)))
theorem mX3_chooseLine_2 : Cond.fieldLink RX3 25 "PracticeSheets$Sheet" "size" "I" ∈ wsX3_chooseLine := List.mem_of_getElem? (i := 2) rfl
set_option maxHeartbeats 4000000 in
set_option maxRecDepth 100000 in
theorem qX3_chooseLine (l : Launch) (D : va_G) (E : Nat → ClassId) (ad : Nat → Nat → Nat) (L : List (Nat × Nat)) (A : Nat → Prop) (hF : gF E ad L A) (hLx : gLx L) (M0 : gW) (k1 : Nat) (hk1 : k1 < gN 1) (K : Int32 → gW → Prop) (hw : wX3_chooseLine M0 k1 K) : Met l yX3_chooseLine wsX3_chooseLine rmX3_chooseLine (va_Pc [.ref (ad 14 0), .ref (ad 1 k1)] (gPre D E ad L M0)) (gQi D E ad L A K) 0 0 A := by
  refine Met.ofW (cc := cX3_chooseLine) (maxL := 8) (ret := (some .boolean)) (by decide) rfl ?_
  intro p e s m args below meth c s₁ B hml hv
  obtain ⟨rfl, hP, hK, hN⟩ := hv
  have hx := B.exec
  have hb := B.bytes
  have hr := B.returns
  have hts := atoms_spec (ws := wsX3_chooseLine) B.pre
  have hown : s.vm.findClass RX3 = some m.cls := findClass_of_methodNamed B.named
  have hlocks := B.notSynchronized
  have S : CallFix p m c cX3_chooseLine 8 s ([.ref (ad 14 0), .ref (ad 1 k1)] : List Value).toArray wsX3_chooseLine RX3 := ⟨hx, hb, hml, hown, hts⟩
  have hS : va_S A s.heap s.heap [] := va_S.rf
  have hl := lv_entry ([.ref (ad 14 0), .ref (ad 1 k1)]) (n := 8) (Nat.le_of_ble_eq_true rfl)
  rw [lg_entry_eq]
  generalize (lg_sl ([.ref (ad 14 0), .ref (ad 1 k1)]) ++ List.replicate (8 - (lg_sl ([.ref (ad 14 0), .ref (ad 1 k1)])).length) Slot.unset).toArray = ls at hl ⊢
  have hl : lv_has ls 8 [(0, .ref (ad 14 0)), (1, .ref (ad 1 k1))] := hl
  refine lv_bipush (v := (-5 : Int32)) hx hb dX3_chooseLine_0 (by decide) ?_
  refine lv_istore_n (lv' := [(2, .int (-5 : Int32)), (0, .ref (ad 14 0)), (1, .ref (ad 1 k1))]) hx hb dX3_chooseLine_2 rfl hl (by decide) rfl (fun ls hl => ?_)
  refine lv_iconst (v := (0 : Int32)) hx hb dX3_chooseLine_3 (by decide) ?_
  refine lv_istore_n (lv' := [(3, .int (0 : Int32)), (2, .int (-5 : Int32)), (0, .ref (ad 14 0)), (1, .ref (ad 1 k1))]) hx hb dX3_chooseLine_4 rfl hl (by decide) rfl (fun ls hl => ?_)
  refine lv_iconst (v := (0 : Int32)) hx hb dX3_chooseLine_5 (by decide) ?_
  refine lv_istore (lv' := [(4, .int (0 : Int32)), (3, .int (0 : Int32)), (2, .int (-5 : Int32)), (0, .ref (ad 14 0)), (1, .ref (ad 1 k1))]) hx hb dX3_chooseLine_6 hl (by decide) rfl (fun ls hl => ?_)
  refine lv_iconst (v := (0 : Int32)) hx hb dX3_chooseLine_8 (by decide) ?_
  refine lv_istore (lv' := [(5, .int (0 : Int32)), (4, .int (0 : Int32)), (3, .int (0 : Int32)), (2, .int (-5 : Int32)), (0, .ref (ad 14 0)), (1, .ref (ad 1 k1))]) hx hb dX3_chooseLine_9 hl (by decide) rfl (fun ls hl => ?_)
  obtain ⟨n25, hw⟩ := hw
  have hxX3_chooseLine_L11_0 : ∀ (M16 : gW) (x2_17 : Int32) (x3_18 : Int32) (x4_19 : Int32) (x5_20 : Int32) (H : Heap) (locs : List Loc) (ls : Array Slot), ((x2_17 = (-5 : Int32) → (K (0 : Int32) M16)) ∧ (¬ (x2_17 = (-5 : Int32)) → (((M16 14 0 4) < (10 : Int32) → ((vp_in x2_17 20) ∧ (wX3_addLine M16 x2_17 x3_18 (20 * k1 + x2_17.toNatClampNeg) (fun M24 => (K (1 : Int32) M24))))) ∧ (¬ ((M16 14 0 4) < (10 : Int32)) → (K (0 : Int32) M16))))) → va_P D vwCl (gL E ad L M16) H → va_S A s.heap H locs → lv_has ls 8 [(0, .ref (ad 14 0)), (1, .ref (ad 1 k1)), (2, .int x2_17), (3, .int x3_18), (4, .int x4_19), (5, .int x5_20)] → W p l e (headSpec wsX3_chooseLine rmX3_chooseLine).room s m (([.ref (ad 14 0), .ref (ad 1 k1)] : List Value).toArray) below meth c H locs 0 0 (MQ below (gQi D E ad L A K) ([.ref (ad 14 0), .ref (ad 1 k1)] : List Value).toArray s 0 0 A) (F0 m 98 ls []) := by
    intro M16 x2_17 x3_18 x4_19 x5_20 H locs ls hw hP hS hl
    refine lv_iload_n hx hb dX3_chooseLine_98 rfl (lv_at hl 2 rfl) ?_
    refine lv_bipush (v := (-5 : Int32)) hx hb dX3_chooseLine_99 (by decide) ?_
    refine lv_icmp_eq (tgt := 113) hx hb dX3_chooseLine_101 (by decide) (fun c21 => ?_) (fun c21 => ?_)
    · have hw := hw.1 c21
      refine lv_iconst (v := (0 : Int32)) hx hb dX3_chooseLine_113 (by decide) ?_
      exact g_zret hx hb hr hlocks (by decide) hw hP hS dX3_chooseLine_114
    · have hw := hw.2 c21
      refine lv_aload_n hx hb dX3_chooseLine_104 rfl (lv_at hl 0 rfl) ?_
      refine g_get (v := .int (M16 14 0 4)) hx hb hts hown hK hP (hLx.h (f := 14) (by decide)) (gC14 _ _ _ _) gcl3 iX3_chooseLine_X3 4 (by decide) mX3_chooseLine_2 rfl rfl dX3_chooseLine_105 ?_
      refine lv_bipush (v := (10 : Int32)) hx hb dX3_chooseLine_108 (by decide) ?_
      refine lv_icmp_lt (tgt := 115) hx hb dX3_chooseLine_110 (by decide) (fun c22 => ?_) (fun c22 => ?_)
      · have hw := hw.1 c22
        refine lv_aload_n hx hb dX3_chooseLine_115 rfl (lv_at hl 0 rfl) ?_
        refine lv_iload_n hx hb dX3_chooseLine_116 rfl (lv_at hl 2 rfl) ?_
        refine lv_iload_n hx hb dX3_chooseLine_117 rfl (lv_at hl 3 rfl) ?_
        refine lv_aload_n hx hb dX3_chooseLine_118 rfl (lv_at hl 1 rfl) ?_
        refine g_getN (v := .ref (ad 5 k1)) hx hb hts hown hK hN hP (hLx.h (f := 1) hk1) (gC1 _ _ _ _) gcl4 iX3_chooseLine_X4 1 (by decide) 17 rfl rfl rfl dX3_chooseLine_119 ?_
        refine g_getN (v := .ref (ad 6 k1)) hx hb hts hown hK hN hP (hLx.h (f := 5) hk1) (gC5 _ _ _ _) gcl7 iX3_chooseLine_X7 0 (by decide) 11 rfl rfl rfl dX3_chooseLine_122 ?_
        refine lv_iload_n hx hb dX3_chooseLine_125 rfl (lv_at hl 2 rfl) ?_
        have hb23 := hw.1
        have hw := hw.2
        refine g_aldw hx hb hK hP (hLx.h (f := 6) hk1) hb23 dX3_chooseLine_126 ?_
        refine g_Vv (As := [.int x2_17, .int x3_18, .ref (ad 7 (20 * k1 + x2_17.toNatClampNeg))]) (rest := []) S hK hN hP hS (qX3_addLine l D E ad L A hF hLx M16 x2_17 x3_18 (20 * k1 + x2_17.toNatClampNeg) (g_word hk1 hb23) _ hw) (cwV 3 hts gX3_chooseLine_X3_addLine rfl rfl rfl eX3_addLine ⟨Nat.le_of_ble_eq_true rfl, Nat.le_of_ble_eq_true rfl⟩) (hLx.h (f := 14) (by decide)) (gC14 _ _ _ _) gcl3 rfl rfl rfl hl.1 (Nat.le_of_ble_eq_true rfl) ⟨Nat.zero_le _, Nat.zero_le _⟩ dX3_chooseLine_127 (fun M24 H locs hw hP hS => ?_)
        refine lv_iconst (v := (1 : Int32)) hx hb dX3_chooseLine_130 (by decide) ?_
        exact g_zret hx hb hr hlocks (by decide) hw hP hS dX3_chooseLine_131
      · have hw := hw.2 c22
        refine lv_iconst (v := (0 : Int32)) hx hb dX3_chooseLine_113 (by decide) ?_
        exact g_zret hx hb hr hlocks (by decide) hw hP hS dX3_chooseLine_114
  have hlX3_chooseLine_L11 : ∀ (n1 : Nat) (M2 : gW) (x2_3 : Int32) (x3_4 : Int32) (x4_5 : Int32) (x5_6 : Int32) (H : Heap) (locs : List Loc) (ls : Array Slot), wX3_chooseLine_L11 k1 (fun M16 x2_17 x3_18 x4_19 x5_20 => ((x2_17 = (-5 : Int32) → (K (0 : Int32) M16)) ∧ (¬ (x2_17 = (-5 : Int32)) → (((M16 14 0 4) < (10 : Int32) → ((vp_in x2_17 20) ∧ (wX3_addLine M16 x2_17 x3_18 (20 * k1 + x2_17.toNatClampNeg) (fun M24 => (K (1 : Int32) M24))))) ∧ (¬ ((M16 14 0 4) < (10 : Int32)) → (K (0 : Int32) M16)))))) n1 M2 x2_3 x3_4 x4_5 x5_6 → va_P D vwCl (gL E ad L M2) H → va_S A s.heap H locs → lv_has ls 8 [(0, .ref (ad 14 0)), (1, .ref (ad 1 k1)), (2, .int x2_3), (3, .int x3_4), (4, .int x4_5), (5, .int x5_6)] → W p l e (headSpec wsX3_chooseLine rmX3_chooseLine).room s m (([.ref (ad 14 0), .ref (ad 1 k1)] : List Value).toArray) below meth c H locs 0 0 (MQ below (gQi D E ad L A K) ([.ref (ad 14 0), .ref (ad 1 k1)] : List Value).toArray s 0 0 A) (F0 m 11 ls []) := by
    intro n1
    induction n1 with
    | zero => intro M2 x2_3 x3_4 x4_5 x5_6 H locs ls hw; exact False.elim hw
    | succ n1 ihn1 =>
      intro M2 x2_3 x3_4 x4_5 x5_6 H locs ls hw hP hS hl
      refine lv_iload hx hb dX3_chooseLine_11 (lv_at hl 5 rfl) ?_
      refine lv_aload_n hx hb dX3_chooseLine_13 rfl (lv_at hl 1 rfl) ?_
      refine g_getN (v := .ref (ad 5 k1)) hx hb hts hown hK hN hP (hLx.h (f := 1) hk1) (gC1 _ _ _ _) gcl4 iX3_chooseLine_X4 1 (by decide) 17 rfl rfl rfl dX3_chooseLine_14 ?_
      refine g_getN (v := .int (M2 5 k1 1)) hx hb hts hown hK hN hP (hLx.h (f := 5) hk1) (gC5 _ _ _ _) gcl7 iX3_chooseLine_X7 1 (by decide) 13 rfl rfl rfl dX3_chooseLine_17 ?_
      refine lv_icmp_ge (tgt := 98) hx hb dX3_chooseLine_20 (by decide) (fun c7 => ?_) (fun c7 => ?_)
      · have hw := hw.1 c7
        exact hxX3_chooseLine_L11_0 _ _ _ _ _ _ _ _ hw hP hS (lv_sub hl [0, 1, 2, 3, 4, 5] rfl)
      · have hw := hw.2 c7
        refine lv_aload_n hx hb dX3_chooseLine_23 rfl (lv_at hl 0 rfl) ?_
        refine g_get (v := .ref (ad 18 0)) hx hb hts hown hK hP (hLx.h (f := 14) (by decide)) (gC14 _ _ _ _) gcl3 iX3_chooseLine_X3 3 (by decide) mX3_chooseLine_1 rfl rfl dX3_chooseLine_24 ?_
        refine lv_iload hx hb dX3_chooseLine_27 (lv_at hl 5 rfl) ?_
        have hb8 := hw.1
        have hw := hw.2
        refine g_zald hx hb hK hP (hLx.h (f := 18) (by decide)) (gC18 _ _ _ _) hb8 dX3_chooseLine_29 ?_
        refine lv_if_eq (tgt := 36) hx hb dX3_chooseLine_30 (by decide) (fun c9 => ?_) (fun c9 => ?_)
        · have hw := hw.1 c9
          refine lv_aload_n hx hb dX3_chooseLine_36 rfl (lv_at hl 1 rfl) ?_
          refine g_getN (v := .ref (ad 5 k1)) hx hb hts hown hK hN hP (hLx.h (f := 1) hk1) (gC1 _ _ _ _) gcl4 iX3_chooseLine_X4 1 (by decide) 17 rfl rfl rfl dX3_chooseLine_37 ?_
          refine g_getN (v := .ref (ad 6 k1)) hx hb hts hown hK hN hP (hLx.h (f := 5) hk1) (gC5 _ _ _ _) gcl7 iX3_chooseLine_X7 0 (by decide) 11 rfl rfl rfl dX3_chooseLine_40 ?_
          refine lv_iload hx hb dX3_chooseLine_43 (lv_at hl 5 rfl) ?_
          have hb10 := hw.1
          have hw := hw.2
          refine g_aldw hx hb hK hP (hLx.h (f := 6) hk1) hb10 dX3_chooseLine_45 ?_
          refine lv_astore (lv' := [(6, .ref (ad 7 (20 * k1 + x5_6.toNatClampNeg))), (0, .ref (ad 14 0)), (1, .ref (ad 1 k1)), (2, .int x2_3), (3, .int x3_4), (4, .int x4_5), (5, .int x5_6)]) hx hb dX3_chooseLine_46 hl (by decide) rfl (fun ls hl => ?_)
          refine lv_aload_n hx hb dX3_chooseLine_48 rfl (lv_at hl 1 rfl) ?_
          refine lv_aload hx hb dX3_chooseLine_49 (lv_at hl 0 rfl) ?_
          refine lv_aload_n hx hb dX3_chooseLine_51 rfl (lv_at hl 2 rfl) ?_
          refine g_Vi (As := [.ref (ad 7 (20 * k1 + x5_6.toNatClampNeg)), .ref (ad 1 k1)]) (rest := []) S hK hN hP hS (qX3_gainOf l D E ad L A hF hLx M2 (20 * k1 + x5_6.toNatClampNeg) k1 (g_word hk1 hb10) hk1 _ hw) (cwV 2 hts gX3_chooseLine_X3_gainOf rfl rfl rfl eX3_gainOf ⟨Nat.le_of_ble_eq_true rfl, Nat.le_of_ble_eq_true rfl⟩) (hLx.h (f := 14) (by decide)) (gC14 _ _ _ _) gcl3 rfl rfl rfl hl.1 (Nat.le_of_ble_eq_true rfl) ⟨Nat.zero_le _, Nat.zero_le _⟩ dX3_chooseLine_52 (fun r12 M11 H locs hw hP hS => ?_)
          refine lv_istore (lv' := [(7, .int r12), (6, .ref (ad 7 (20 * k1 + x5_6.toNatClampNeg))), (0, .ref (ad 14 0)), (1, .ref (ad 1 k1)), (2, .int x2_3), (3, .int x3_4), (4, .int x4_5), (5, .int x5_6)]) hx hb dX3_chooseLine_55 hl (by decide) rfl (fun ls hl => ?_)
          refine lv_iload hx hb dX3_chooseLine_57 (lv_at hl 0 rfl) ?_
          refine lv_iload_n hx hb dX3_chooseLine_59 rfl (lv_at hl 5 rfl) ?_
          refine lv_icmp_gt (tgt := 79) hx hb dX3_chooseLine_60 (by decide) (fun c13 => ?_) (fun c13 => ?_)
          · have hw := hw.1 c13
            refine lv_iload hx hb dX3_chooseLine_79 (lv_at hl 7 rfl) ?_
            refine lv_istore_n (lv' := [(2, .int x5_6), (7, .int r12), (6, .ref (ad 7 (20 * k1 + x5_6.toNatClampNeg))), (0, .ref (ad 14 0)), (1, .ref (ad 1 k1)), (3, .int x3_4), (4, .int x4_5), (5, .int x5_6)]) hx hb dX3_chooseLine_81 rfl hl (by decide) rfl (fun ls hl => ?_)
            refine lv_iload hx hb dX3_chooseLine_82 (lv_at hl 1 rfl) ?_
            refine lv_istore_n (lv' := [(3, .int r12), (2, .int x5_6), (7, .int r12), (6, .ref (ad 7 (20 * k1 + x5_6.toNatClampNeg))), (0, .ref (ad 14 0)), (1, .ref (ad 1 k1)), (4, .int x4_5), (5, .int x5_6)]) hx hb dX3_chooseLine_84 rfl hl (by decide) rfl (fun ls hl => ?_)
            refine lv_aload hx hb dX3_chooseLine_85 (lv_at hl 3 rfl) ?_
            refine g_getN (v := .int (M11 7 (20 * k1 + x5_6.toNatClampNeg) 2)) hx hb hts hown hK hN hP (hLx.h (f := 7) (g_word hk1 hb10)) (gC7 _ _ _ _) gcl6 iX3_chooseLine_X6 2 (by decide) 4 rfl rfl rfl dX3_chooseLine_87 ?_
            refine lv_istore (lv' := [(4, .int (M11 7 (20 * k1 + x5_6.toNatClampNeg) 2)), (3, .int r12), (2, .int x5_6), (7, .int r12), (6, .ref (ad 7 (20 * k1 + x5_6.toNatClampNeg))), (0, .ref (ad 14 0)), (1, .ref (ad 1 k1)), (5, .int x5_6)]) hx hb dX3_chooseLine_90 hl (by decide) rfl (fun ls hl => ?_)
            refine lv_iinc (v := (x5_6 + (1 : Int32))) (lv' := [(5, .int (x5_6 + (1 : Int32))), (4, .int (M11 7 (20 * k1 + x5_6.toNatClampNeg) 2)), (3, .int r12), (2, .int x5_6), (7, .int r12), (6, .ref (ad 7 (20 * k1 + x5_6.toNatClampNeg))), (0, .ref (ad 14 0)), (1, .ref (ad 1 k1))]) hx hb dX3_chooseLine_92 hl (k := 7) rfl rfl (by decide) rfl (fun ls hl => ?_)
            refine lv_goto (tgt := 11) hx hb dX3_chooseLine_95 (by decide) ?_
            exact ihn1 _ _ _ _ _ _ _ _ hw hP hS (lv_sub hl [6, 7, 3, 2, 1, 0] rfl)
          · have hw := hw.2 c13
            refine lv_iload hx hb dX3_chooseLine_63 (lv_at hl 0 rfl) ?_
            refine lv_iload_n hx hb dX3_chooseLine_65 rfl (lv_at hl 5 rfl) ?_
            refine lv_icmp_ne (tgt := 92) hx hb dX3_chooseLine_66 (by decide) (fun c14 => ?_) (fun c14 => ?_)
            · have hw := hw.2 c14
              refine lv_iinc (v := (x5_6 + (1 : Int32))) (lv' := [(5, .int (x5_6 + (1 : Int32))), (7, .int r12), (6, .ref (ad 7 (20 * k1 + x5_6.toNatClampNeg))), (0, .ref (ad 14 0)), (1, .ref (ad 1 k1)), (2, .int x2_3), (3, .int x3_4), (4, .int x4_5)]) hx hb dX3_chooseLine_92 hl (k := 7) rfl rfl (by decide) rfl (fun ls hl => ?_)
              refine lv_goto (tgt := 11) hx hb dX3_chooseLine_95 (by decide) ?_
              exact ihn1 _ _ _ _ _ _ _ _ hw hP hS (lv_sub hl [3, 4, 5, 6, 7, 0] rfl)
            · have hw := hw.1 c14
              refine lv_aload hx hb dX3_chooseLine_69 (lv_at hl 1 rfl) ?_
              refine g_getN (v := .int (M11 7 (20 * k1 + x5_6.toNatClampNeg) 2)) hx hb hts hown hK hN hP (hLx.h (f := 7) (g_word hk1 hb10)) (gC7 _ _ _ _) gcl6 iX3_chooseLine_X6 2 (by decide) 4 rfl rfl rfl dX3_chooseLine_71 ?_
              refine lv_iload hx hb dX3_chooseLine_74 (lv_at hl 6 rfl) ?_
              refine lv_icmp_ge (tgt := 92) hx hb dX3_chooseLine_76 (by decide) (fun c15 => ?_) (fun c15 => ?_)
              · have hw := hw.1 c15
                refine lv_iinc (v := (x5_6 + (1 : Int32))) (lv' := [(5, .int (x5_6 + (1 : Int32))), (7, .int r12), (6, .ref (ad 7 (20 * k1 + x5_6.toNatClampNeg))), (0, .ref (ad 14 0)), (1, .ref (ad 1 k1)), (2, .int x2_3), (3, .int x3_4), (4, .int x4_5)]) hx hb dX3_chooseLine_92 hl (k := 7) rfl rfl (by decide) rfl (fun ls hl => ?_)
                refine lv_goto (tgt := 11) hx hb dX3_chooseLine_95 (by decide) ?_
                exact ihn1 _ _ _ _ _ _ _ _ hw hP hS (lv_sub hl [3, 4, 5, 6, 7, 0] rfl)
              · have hw := hw.2 c15
                refine lv_iload hx hb dX3_chooseLine_79 (lv_at hl 7 rfl) ?_
                refine lv_istore_n (lv' := [(2, .int x5_6), (7, .int r12), (6, .ref (ad 7 (20 * k1 + x5_6.toNatClampNeg))), (0, .ref (ad 14 0)), (1, .ref (ad 1 k1)), (3, .int x3_4), (4, .int x4_5), (5, .int x5_6)]) hx hb dX3_chooseLine_81 rfl hl (by decide) rfl (fun ls hl => ?_)
                refine lv_iload hx hb dX3_chooseLine_82 (lv_at hl 1 rfl) ?_
                refine lv_istore_n (lv' := [(3, .int r12), (2, .int x5_6), (7, .int r12), (6, .ref (ad 7 (20 * k1 + x5_6.toNatClampNeg))), (0, .ref (ad 14 0)), (1, .ref (ad 1 k1)), (4, .int x4_5), (5, .int x5_6)]) hx hb dX3_chooseLine_84 rfl hl (by decide) rfl (fun ls hl => ?_)
                refine lv_aload hx hb dX3_chooseLine_85 (lv_at hl 3 rfl) ?_
                refine g_getN (v := .int (M11 7 (20 * k1 + x5_6.toNatClampNeg) 2)) hx hb hts hown hK hN hP (hLx.h (f := 7) (g_word hk1 hb10)) (gC7 _ _ _ _) gcl6 iX3_chooseLine_X6 2 (by decide) 4 rfl rfl rfl dX3_chooseLine_87 ?_
                refine lv_istore (lv' := [(4, .int (M11 7 (20 * k1 + x5_6.toNatClampNeg) 2)), (3, .int r12), (2, .int x5_6), (7, .int r12), (6, .ref (ad 7 (20 * k1 + x5_6.toNatClampNeg))), (0, .ref (ad 14 0)), (1, .ref (ad 1 k1)), (5, .int x5_6)]) hx hb dX3_chooseLine_90 hl (by decide) rfl (fun ls hl => ?_)
                refine lv_iinc (v := (x5_6 + (1 : Int32))) (lv' := [(5, .int (x5_6 + (1 : Int32))), (4, .int (M11 7 (20 * k1 + x5_6.toNatClampNeg) 2)), (3, .int r12), (2, .int x5_6), (7, .int r12), (6, .ref (ad 7 (20 * k1 + x5_6.toNatClampNeg))), (0, .ref (ad 14 0)), (1, .ref (ad 1 k1))]) hx hb dX3_chooseLine_92 hl (k := 7) rfl rfl (by decide) rfl (fun ls hl => ?_)
                refine lv_goto (tgt := 11) hx hb dX3_chooseLine_95 (by decide) ?_
                exact ihn1 _ _ _ _ _ _ _ _ hw hP hS (lv_sub hl [6, 7, 3, 2, 1, 0] rfl)
        · have hw := hw.2 c9
          refine lv_goto (tgt := 92) hx hb dX3_chooseLine_33 (by decide) ?_
          refine lv_iinc (v := (x5_6 + (1 : Int32))) (lv' := [(5, .int (x5_6 + (1 : Int32))), (0, .ref (ad 14 0)), (1, .ref (ad 1 k1)), (2, .int x2_3), (3, .int x3_4), (4, .int x4_5)]) hx hb dX3_chooseLine_92 hl (k := 5) rfl rfl (by decide) rfl (fun ls hl => ?_)
          refine lv_goto (tgt := 11) hx hb dX3_chooseLine_95 (by decide) ?_
          exact ihn1 _ _ _ _ _ _ _ _ hw hP hS (lv_sub hl [1, 2, 3, 4, 5, 0] rfl)
  exact hlX3_chooseLine_L11 n25 _ _ _ _ _ _ _ _ hw hP hS (lv_sub hl [4, 5, 3, 2, 1, 0] rfl)
abbrev rmX3_choose : Room := { frames := 5, cells := 0, slots := 0, locals := 114 }
theorem eX3_choose : yX3_choose.cls = RX3 ∧ yX3_choose.cls ≠ "java/lang/invoke/MethodHandle" ∧ yX3_choose.cls ≠ "java/lang/invoke/VarHandle" ∧ (parseMethodDescriptor yX3_choose.desc).map (fun d => d.parameters.length) = some 2 := by decide +kernel
set_option maxHeartbeats 4000000 in
set_option maxRecDepth 100000 in
theorem qX3_choose (l : Launch) (D : va_G) (E : Nat → ClassId) (ad : Nat → Nat → Nat) (L : List (Nat × Nat)) (A : Nat → Prop) (hF : gF E ad L A) (hLx : gLx L) (M0 : gW) (k1 : Nat) (a2 : Int32) (hk1 : k1 < gN 1) (K : gW → Prop) (hw : wX3_choose M0 k1 a2 K) : Met l yX3_choose wsX3_choose rmX3_choose (va_Pc [.ref (ad 14 0), .ref (ad 1 k1), .int a2] (gPre D E ad L M0)) (gQv D E ad L A K) 0 0 A := by
  refine Met.ofW (cc := cX3_choose) (maxL := 5) (ret := none) (by decide) rfl ?_
  intro p e s m args below meth c s₁ B hml hv
  obtain ⟨rfl, hP, hK, hN⟩ := hv
  have hx := B.exec
  have hb := B.bytes
  have hr := B.returns
  have hts := atoms_spec (ws := wsX3_choose) B.pre
  have hown : s.vm.findClass RX3 = some m.cls := findClass_of_methodNamed B.named
  have hlocks := B.notSynchronized
  have S : CallFix p m c cX3_choose 5 s ([.ref (ad 14 0), .ref (ad 1 k1), .int a2] : List Value).toArray wsX3_choose RX3 := ⟨hx, hb, hml, hown, hts⟩
  have hS : va_S A s.heap s.heap [] := va_S.rf
  have hl := lv_entry ([.ref (ad 14 0), .ref (ad 1 k1), .int a2]) (n := 5) (Nat.le_of_ble_eq_true rfl)
  rw [lg_entry_eq]
  generalize (lg_sl ([.ref (ad 14 0), .ref (ad 1 k1), .int a2]) ++ List.replicate (5 - (lg_sl ([.ref (ad 14 0), .ref (ad 1 k1), .int a2])).length) Slot.unset).toArray = ls at hl ⊢
  have hl : lv_has ls 5 [(0, .ref (ad 14 0)), (1, .ref (ad 1 k1)), (2, .int a2)] := hl
  refine lv_aload_n hx hb dX3_choose_0 rfl (lv_at hl 0 rfl) ?_
  refine g_Vv (As := []) (rest := []) S hK hN hP hS (qX3_clear l D E ad L A hF hLx M0  _ hw) (cwV 0 hts gX3_choose_X3_clear rfl rfl rfl eX3_clear ⟨Nat.le_of_ble_eq_true rfl, Nat.le_of_ble_eq_true rfl⟩) (hLx.h (f := 14) (by decide)) (gC14 _ _ _ _) gcl3 rfl rfl rfl hl.1 (Nat.le_of_ble_eq_true rfl) ⟨Nat.zero_le _, Nat.zero_le _⟩ dX3_choose_1 (fun M1 H locs hw hP hS => ?_)
  refine lv_iconst (v := (1 : Int32)) hx hb dX3_choose_4 (by decide) ?_
  refine lv_istore_n (lv' := [(3, .int (1 : Int32)), (0, .ref (ad 14 0)), (1, .ref (ad 1 k1)), (2, .int a2)]) hx hb dX3_choose_5 rfl hl (by decide) rfl (fun ls hl => ?_)
  refine lv_iconst (v := (0 : Int32)) hx hb dX3_choose_6 (by decide) ?_
  refine lv_istore (lv' := [(4, .int (0 : Int32)), (3, .int (1 : Int32)), (0, .ref (ad 14 0)), (1, .ref (ad 1 k1)), (2, .int a2)]) hx hb dX3_choose_7 hl (by decide) rfl (fun ls hl => ?_)
  obtain ⟨n13, hw⟩ := hw
  have hxX3_choose_L9_0 : ∀ (M10 : gW) (x3_11 : Int32) (x4_12 : Int32) (H : Heap) (locs : List Loc) (ls : Array Slot), (K M10) → va_P D vwCl (gL E ad L M10) H → va_S A s.heap H locs → lv_has ls 5 [(0, .ref (ad 14 0)), (1, .ref (ad 1 k1)), (2, .int a2), (3, .int x3_11), (4, .int x4_12)] → W p l e (headSpec wsX3_choose rmX3_choose).room s m (([.ref (ad 14 0), .ref (ad 1 k1), .int a2] : List Value).toArray) below meth c H locs 0 0 (MQ below (gQv D E ad L A K) ([.ref (ad 14 0), .ref (ad 1 k1), .int a2] : List Value).toArray s 0 0 A) (F0 m 31 ls []) := by
    intro M10 x3_11 x4_12 H locs ls hw hP hS hl
    exact g_vret hx hb hr hlocks hw hP hS dX3_choose_31
  have hlX3_choose_L9 : ∀ (n2 : Nat) (M3 : gW) (x3_4 : Int32) (x4_5 : Int32) (H : Heap) (locs : List Loc) (ls : Array Slot), wX3_choose_L9 k1 a2 (fun M10 x3_11 x4_12 => (K M10)) n2 M3 x3_4 x4_5 → va_P D vwCl (gL E ad L M3) H → va_S A s.heap H locs → lv_has ls 5 [(0, .ref (ad 14 0)), (1, .ref (ad 1 k1)), (2, .int a2), (3, .int x3_4), (4, .int x4_5)] → W p l e (headSpec wsX3_choose rmX3_choose).room s m (([.ref (ad 14 0), .ref (ad 1 k1), .int a2] : List Value).toArray) below meth c H locs 0 0 (MQ below (gQv D E ad L A K) ([.ref (ad 14 0), .ref (ad 1 k1), .int a2] : List Value).toArray s 0 0 A) (F0 m 9 ls []) := by
    intro n2
    induction n2 with
    | zero => intro M3 x3_4 x4_5 H locs ls hw; exact False.elim hw
    | succ n2 ihn2 =>
      intro M3 x3_4 x4_5 H locs ls hw hP hS hl
      refine lv_iload hx hb dX3_choose_9 (lv_at hl 4 rfl) ?_
      refine lv_iload_n hx hb dX3_choose_11 rfl (lv_at hl 2 rfl) ?_
      refine lv_icmp_ge (tgt := 31) hx hb dX3_choose_12 (by decide) (fun c6 => ?_) (fun c6 => ?_)
      · have hw := hw.1 c6
        exact hxX3_choose_L9_0 _ _ _ _ _ _ hw hP hS (lv_sub hl [0, 1, 2, 3, 4] rfl)
      · have hw := hw.2 c6
        refine lv_iload_n hx hb dX3_choose_15 rfl (lv_at hl 3 rfl) ?_
        refine lv_if_eq (tgt := 31) hx hb dX3_choose_16 (by decide) (fun c7 => ?_) (fun c7 => ?_)
        · have hw := hw.1 c7
          exact hxX3_choose_L9_0 _ _ _ _ _ _ hw hP hS (lv_sub hl [0, 1, 2, 3, 4] rfl)
        · have hw := hw.2 c7
          refine lv_aload_n hx hb dX3_choose_19 rfl (lv_at hl 0 rfl) ?_
          refine lv_aload_n hx hb dX3_choose_20 rfl (lv_at hl 1 rfl) ?_
          refine g_Vi (As := [.ref (ad 1 k1)]) (rest := []) S hK hN hP hS (qX3_chooseLine l D E ad L A hF hLx M3 k1 hk1 _ hw) (cwV 1 hts gX3_choose_X3_chooseLine rfl rfl rfl eX3_chooseLine ⟨Nat.le_of_ble_eq_true rfl, Nat.le_of_ble_eq_true rfl⟩) (hLx.h (f := 14) (by decide)) (gC14 _ _ _ _) gcl3 rfl rfl rfl hl.1 (Nat.le_of_ble_eq_true rfl) ⟨Nat.zero_le _, Nat.zero_le _⟩ dX3_choose_21 (fun r9 M8 H locs hw hP hS => ?_)
          refine lv_istore_n (lv' := [(3, .int r9), (0, .ref (ad 14 0)), (1, .ref (ad 1 k1)), (2, .int a2), (4, .int x4_5)]) hx hb dX3_choose_24 rfl hl (by decide) rfl (fun ls hl => ?_)
          refine lv_iinc (v := (x4_5 + (1 : Int32))) (lv' := [(4, .int (x4_5 + (1 : Int32))), (3, .int r9), (0, .ref (ad 14 0)), (1, .ref (ad 1 k1)), (2, .int a2)]) hx hb dX3_choose_25 hl (k := 4) rfl rfl (by decide) rfl (fun ls hl => ?_)
          refine lv_goto (tgt := 9) hx hb dX3_choose_28 (by decide) ?_
          exact ihn2 _ _ _ _ _ _ hw hP hS (lv_sub hl [2, 3, 4, 1, 0] rfl)
  exact hlX3_choose_L9 n13 _ _ _ _ _ _ hw hP hS (lv_sub hl [2, 3, 4, 1, 0] rfl)
abbrev rmX3_coveredFrom : Room := { frames := 0, cells := 0, slots := 0, locals := 0 }
theorem eX3_coveredFrom : yX3_coveredFrom.cls = RX3 ∧ yX3_coveredFrom.cls ≠ "java/lang/invoke/MethodHandle" ∧ yX3_coveredFrom.cls ≠ "java/lang/invoke/VarHandle" ∧ (parseMethodDescriptor yX3_coveredFrom.desc).map (fun d => d.parameters.length) = some 2 := by decide +kernel
theorem iX3_coveredFrom_X3 : ∀ w ∈ wsX30, w ∈ wsX3_coveredFrom := fun _ h => List.mem_cons_of_mem _ (List.mem_append_right _ (h))
theorem mX3_coveredFrom_1 : Cond.fieldLink RX3 18 "PracticeSheets$Sheet" "isCovered" "[Z" ∈ wsX3_coveredFrom := List.mem_of_getElem? (i := 1) rfl
set_option maxHeartbeats 4000000 in
set_option maxRecDepth 100000 in
theorem qX3_coveredFrom (l : Launch) (D : va_G) (E : Nat → ClassId) (ad : Nat → Nat → Nat) (L : List (Nat × Nat)) (A : Nat → Prop) (hF : gF E ad L A) (hLx : gLx L) (M0 : gW) (a1 : Int32) (a2 : Int32)  (K : Int32 → gW → Prop) (hw : wX3_coveredFrom M0 a1 a2 K) : Met l yX3_coveredFrom wsX3_coveredFrom rmX3_coveredFrom (va_Pc [.ref (ad 14 0), .int a1, .int a2] (gPre D E ad L M0)) (gQi D E ad L A K) 0 0 A := by
  refine Met.ofW (cc := cX3_coveredFrom) (maxL := 5) (ret := (some .int)) (by decide) rfl ?_
  intro p e s m args below meth c s₁ B hml hv
  obtain ⟨rfl, hP, hK, hN⟩ := hv
  have hx := B.exec
  have hb := B.bytes
  have hr := B.returns
  have hts := atoms_spec (ws := wsX3_coveredFrom) B.pre
  have hown : s.vm.findClass RX3 = some m.cls := findClass_of_methodNamed B.named
  have hlocks := B.notSynchronized
  have S : CallFix p m c cX3_coveredFrom 5 s ([.ref (ad 14 0), .int a1, .int a2] : List Value).toArray wsX3_coveredFrom RX3 := ⟨hx, hb, hml, hown, hts⟩
  have hS : va_S A s.heap s.heap [] := va_S.rf
  have hl := lv_entry ([.ref (ad 14 0), .int a1, .int a2]) (n := 5) (Nat.le_of_ble_eq_true rfl)
  rw [lg_entry_eq]
  generalize (lg_sl ([.ref (ad 14 0), .int a1, .int a2]) ++ List.replicate (5 - (lg_sl ([.ref (ad 14 0), .int a1, .int a2])).length) Slot.unset).toArray = ls at hl ⊢
  have hl : lv_has ls 5 [(0, .ref (ad 14 0)), (1, .int a1), (2, .int a2)] := hl
  refine lv_iconst (v := (0 : Int32)) hx hb dX3_coveredFrom_0 (by decide) ?_
  refine lv_istore_n (lv' := [(3, .int (0 : Int32)), (0, .ref (ad 14 0)), (1, .int a1), (2, .int a2)]) hx hb dX3_coveredFrom_1 rfl hl (by decide) rfl (fun ls hl => ?_)
  refine lv_iload_n hx hb dX3_coveredFrom_2 rfl (lv_at hl 2 rfl) ?_
  refine lv_istore (lv' := [(4, .int a1), (3, .int (0 : Int32)), (0, .ref (ad 14 0)), (1, .int a1), (2, .int a2)]) hx hb dX3_coveredFrom_3 hl (by decide) rfl (fun ls hl => ?_)
  obtain ⟨n11, hw⟩ := hw
  have hxX3_coveredFrom_L5_0 : ∀ (M8 : gW) (x3_9 : Int32) (x4_10 : Int32) (H : Heap) (locs : List Loc) (ls : Array Slot), (K x3_9 M8) → va_P D vwCl (gL E ad L M8) H → va_S A s.heap H locs → lv_has ls 5 [(0, .ref (ad 14 0)), (1, .int a1), (2, .int a2), (3, .int x3_9), (4, .int x4_10)] → W p l e (headSpec wsX3_coveredFrom rmX3_coveredFrom).room s m (([.ref (ad 14 0), .int a1, .int a2] : List Value).toArray) below meth c H locs 0 0 (MQ below (gQi D E ad L A K) ([.ref (ad 14 0), .int a1, .int a2] : List Value).toArray s 0 0 A) (F0 m 30 ls []) := by
    intro M8 x3_9 x4_10 H locs ls hw hP hS hl
    refine lv_iload_n hx hb dX3_coveredFrom_30 rfl (lv_at hl 3 rfl) ?_
    exact g_iret hx hb hr hlocks hw hP hS dX3_coveredFrom_31
  have hlX3_coveredFrom_L5 : ∀ (n1 : Nat) (M2 : gW) (x3_3 : Int32) (x4_4 : Int32) (H : Heap) (locs : List Loc) (ls : Array Slot), wX3_coveredFrom_L5 a2 (fun M8 x3_9 x4_10 => (K x3_9 M8)) n1 M2 x3_3 x4_4 → va_P D vwCl (gL E ad L M2) H → va_S A s.heap H locs → lv_has ls 5 [(0, .ref (ad 14 0)), (1, .int a1), (2, .int a2), (3, .int x3_3), (4, .int x4_4)] → W p l e (headSpec wsX3_coveredFrom rmX3_coveredFrom).room s m (([.ref (ad 14 0), .int a1, .int a2] : List Value).toArray) below meth c H locs 0 0 (MQ below (gQi D E ad L A K) ([.ref (ad 14 0), .int a1, .int a2] : List Value).toArray s 0 0 A) (F0 m 5 ls []) := by
    intro n1
    induction n1 with
    | zero => intro M2 x3_3 x4_4 H locs ls hw; exact False.elim hw
    | succ n1 ihn1 =>
      intro M2 x3_3 x4_4 H locs ls hw hP hS hl
      refine lv_iload hx hb dX3_coveredFrom_5 (lv_at hl 4 rfl) ?_
      refine lv_iload_n hx hb dX3_coveredFrom_7 rfl (lv_at hl 2 rfl) ?_
      refine lv_icmp_ge (tgt := 30) hx hb dX3_coveredFrom_8 (by decide) (fun c5 => ?_) (fun c5 => ?_)
      · have hw := hw.1 c5
        exact hxX3_coveredFrom_L5_0 _ _ _ _ _ _ hw hP hS (lv_sub hl [0, 1, 2, 3, 4] rfl)
      · have hw := hw.2 c5
        refine lv_aload_n hx hb dX3_coveredFrom_11 rfl (lv_at hl 0 rfl) ?_
        refine g_get (v := .ref (ad 17 0)) hx hb hts hown hK hP (hLx.h (f := 14) (by decide)) (gC14 _ _ _ _) gcl3 iX3_coveredFrom_X3 2 (by decide) mX3_coveredFrom_1 rfl rfl dX3_coveredFrom_12 ?_
        refine lv_iload hx hb dX3_coveredFrom_15 (lv_at hl 4 rfl) ?_
        have hb6 := hw.1
        have hw := hw.2
        refine g_zald hx hb hK hP (hLx.h (f := 17) (by decide)) (gC17 _ _ _ _) hb6 dX3_coveredFrom_17 ?_
        refine lv_if_eq (tgt := 24) hx hb dX3_coveredFrom_18 (by decide) (fun c7 => ?_) (fun c7 => ?_)
        · have hw := hw.1 c7
          refine lv_iinc (v := (x4_4 + (1 : Int32))) (lv' := [(4, .int (x4_4 + (1 : Int32))), (0, .ref (ad 14 0)), (1, .int a1), (2, .int a2), (3, .int x3_3)]) hx hb dX3_coveredFrom_24 hl (k := 4) rfl rfl (by decide) rfl (fun ls hl => ?_)
          refine lv_goto (tgt := 5) hx hb dX3_coveredFrom_27 (by decide) ?_
          exact ihn1 _ _ _ _ _ _ hw hP hS (lv_sub hl [1, 2, 3, 4, 0] rfl)
        · have hw := hw.2 c7
          refine lv_iinc (v := (x3_3 + (1 : Int32))) (lv' := [(3, .int (x3_3 + (1 : Int32))), (0, .ref (ad 14 0)), (1, .int a1), (2, .int a2), (4, .int x4_4)]) hx hb dX3_coveredFrom_21 hl (k := 3) rfl rfl (by decide) rfl (fun ls hl => ?_)
          refine lv_iinc (v := (x4_4 + (1 : Int32))) (lv' := [(4, .int (x4_4 + (1 : Int32))), (3, .int (x3_3 + (1 : Int32))), (0, .ref (ad 14 0)), (1, .int a1), (2, .int a2)]) hx hb dX3_coveredFrom_24 hl (k := 4) rfl rfl (by decide) rfl (fun ls hl => ?_)
          refine lv_goto (tgt := 5) hx hb dX3_coveredFrom_27 (by decide) ?_
          exact ihn1 _ _ _ _ _ _ hw hP hS (lv_sub hl [2, 3, 4, 1, 0] rfl)
  exact hlX3_coveredFrom_L5 n11 _ _ _ _ _ _ hw hP hS (lv_sub hl [2, 3, 4, 1, 0] rfl)
abbrev rmX3_needCovered : Room := { frames := 3, cells := 0, slots := 0, locals := 62 }
theorem eX3_needCovered : yX3_needCovered.cls = RX3 ∧ yX3_needCovered.cls ≠ "java/lang/invoke/MethodHandle" ∧ yX3_needCovered.cls ≠ "java/lang/invoke/VarHandle" ∧ (parseMethodDescriptor yX3_needCovered.desc).map (fun d => d.parameters.length) = some 1 := by decide +kernel
theorem iX3_needCovered_X3 : ∀ w ∈ wsX30, w ∈ wsX3_needCovered := fun _ h => List.mem_cons_of_mem _ (List.mem_append_left _ (List.mem_append_right _ (h)))
theorem mX3_needCovered_1 : Cond.fieldLink RX3 18 "PracticeSheets$Sheet" "isCovered" "[Z" ∈ wsX3_needCovered := List.mem_of_getElem? (i := 1) rfl
set_option maxHeartbeats 4000000 in
set_option maxRecDepth 100000 in
theorem qX3_needCovered (l : Launch) (D : va_G) (E : Nat → ClassId) (ad : Nat → Nat → Nat) (L : List (Nat × Nat)) (A : Nat → Prop) (hF : gF E ad L A) (hLx : gLx L) (M0 : gW) (k1 : Nat) (hk1 : k1 < gN 2) (K : Int32 → gW → Prop) (hw : wX3_needCovered M0 k1 K) : Met l yX3_needCovered wsX3_needCovered rmX3_needCovered (va_Pc [.ref (ad 14 0), .ref (ad 2 k1)] (gPre D E ad L M0)) (gQi D E ad L A K) 0 0 A := by
  refine Met.ofW (cc := cX3_needCovered) (maxL := 4) (ret := (some .int)) (by decide) rfl ?_
  intro p e s m args below meth c s₁ B hml hv
  obtain ⟨rfl, hP, hK, hN⟩ := hv
  have hx := B.exec
  have hb := B.bytes
  have hr := B.returns
  have hts := atoms_spec (ws := wsX3_needCovered) B.pre
  have hown : s.vm.findClass RX3 = some m.cls := findClass_of_methodNamed B.named
  have hlocks := B.notSynchronized
  have S : CallFix p m c cX3_needCovered 4 s ([.ref (ad 14 0), .ref (ad 2 k1)] : List Value).toArray wsX3_needCovered RX3 := ⟨hx, hb, hml, hown, hts⟩
  have hS : va_S A s.heap s.heap [] := va_S.rf
  have hl := lv_entry ([.ref (ad 14 0), .ref (ad 2 k1)]) (n := 4) (Nat.le_of_ble_eq_true rfl)
  rw [lg_entry_eq]
  generalize (lg_sl ([.ref (ad 14 0), .ref (ad 2 k1)]) ++ List.replicate (4 - (lg_sl ([.ref (ad 14 0), .ref (ad 2 k1)])).length) Slot.unset).toArray = ls at hl ⊢
  have hl : lv_has ls 4 [(0, .ref (ad 14 0)), (1, .ref (ad 2 k1))] := hl
  refine lv_iconst (v := (0 : Int32)) hx hb dX3_needCovered_0 (by decide) ?_
  refine lv_istore_n (lv' := [(2, .int (0 : Int32)), (0, .ref (ad 14 0)), (1, .ref (ad 2 k1))]) hx hb dX3_needCovered_1 rfl hl (by decide) rfl (fun ls hl => ?_)
  refine lv_iconst (v := (0 : Int32)) hx hb dX3_needCovered_2 (by decide) ?_
  refine lv_istore_n (lv' := [(3, .int (0 : Int32)), (2, .int (0 : Int32)), (0, .ref (ad 14 0)), (1, .ref (ad 2 k1))]) hx hb dX3_needCovered_3 rfl hl (by decide) rfl (fun ls hl => ?_)
  obtain ⟨n13, hw⟩ := hw
  have hxX3_needCovered_L4_0 : ∀ (M10 : gW) (x2_11 : Int32) (x3_12 : Int32) (H : Heap) (locs : List Loc) (ls : Array Slot), (K x2_11 M10) → va_P D vwCl (gL E ad L M10) H → va_S A s.heap H locs → lv_has ls 4 [(0, .ref (ad 14 0)), (1, .ref (ad 2 k1)), (2, .int x2_11), (3, .int x3_12)] → W p l e (headSpec wsX3_needCovered rmX3_needCovered).room s m (([.ref (ad 14 0), .ref (ad 2 k1)] : List Value).toArray) below meth c H locs 0 0 (MQ below (gQi D E ad L A K) ([.ref (ad 14 0), .ref (ad 2 k1)] : List Value).toArray s 0 0 A) (F0 m 34 ls []) := by
    intro M10 x2_11 x3_12 H locs ls hw hP hS hl
    refine lv_iload_n hx hb dX3_needCovered_34 rfl (lv_at hl 2 rfl) ?_
    exact g_iret hx hb hr hlocks hw hP hS dX3_needCovered_35
  have hlX3_needCovered_L4 : ∀ (n1 : Nat) (M2 : gW) (x2_3 : Int32) (x3_4 : Int32) (H : Heap) (locs : List Loc) (ls : Array Slot), wX3_needCovered_L4 k1 (fun M10 x2_11 x3_12 => (K x2_11 M10)) n1 M2 x2_3 x3_4 → va_P D vwCl (gL E ad L M2) H → va_S A s.heap H locs → lv_has ls 4 [(0, .ref (ad 14 0)), (1, .ref (ad 2 k1)), (2, .int x2_3), (3, .int x3_4)] → W p l e (headSpec wsX3_needCovered rmX3_needCovered).room s m (([.ref (ad 14 0), .ref (ad 2 k1)] : List Value).toArray) below meth c H locs 0 0 (MQ below (gQi D E ad L A K) ([.ref (ad 14 0), .ref (ad 2 k1)] : List Value).toArray s 0 0 A) (F0 m 4 ls []) := by
    intro n1
    induction n1 with
    | zero => intro M2 x2_3 x3_4 H locs ls hw; exact False.elim hw
    | succ n1 ihn1 =>
      intro M2 x2_3 x3_4 H locs ls hw hP hS hl
      refine lv_iload_n hx hb dX3_needCovered_4 rfl (lv_at hl 3 rfl) ?_
      refine lv_sipush (v := (702 : Int32)) hx hb dX3_needCovered_5 (by decide) ?_
      refine lv_icmp_ge (tgt := 34) hx hb dX3_needCovered_8 (by decide) (fun c5 => ?_) (fun c5 => ?_)
      · have hw := hw.1 c5
        exact hxX3_needCovered_L4_0 _ _ _ _ _ _ hw hP hS (lv_sub hl [0, 1, 2, 3] rfl)
      · have hw := hw.2 c5
        refine lv_aload_n hx hb dX3_needCovered_11 rfl (lv_at hl 0 rfl) ?_
        refine g_get (v := .ref (ad 17 0)) hx hb hts hown hK hP (hLx.h (f := 14) (by decide)) (gC14 _ _ _ _) gcl3 iX3_needCovered_X3 2 (by decide) mX3_needCovered_1 rfl rfl dX3_needCovered_12 ?_
        refine lv_iload_n hx hb dX3_needCovered_15 rfl (lv_at hl 3 rfl) ?_
        have hb6 := hw.1
        have hw := hw.2
        refine g_zald hx hb hK hP (hLx.h (f := 17) (by decide)) (gC17 _ _ _ _) hb6 dX3_needCovered_16 ?_
        refine lv_if_eq (tgt := 28) hx hb dX3_needCovered_17 (by decide) (fun c7 => ?_) (fun c7 => ?_)
        · have hw := hw.1 c7
          refine lv_iinc (v := (x3_4 + (1 : Int32))) (lv' := [(3, .int (x3_4 + (1 : Int32))), (0, .ref (ad 14 0)), (1, .ref (ad 2 k1)), (2, .int x2_3)]) hx hb dX3_needCovered_28 hl (k := 3) rfl rfl (by decide) rfl (fun ls hl => ?_)
          refine lv_goto (tgt := 4) hx hb dX3_needCovered_31 (by decide) ?_
          exact ihn1 _ _ _ _ _ _ hw hP hS (lv_sub hl [1, 2, 3, 0] rfl)
        · have hw := hw.2 c7
          refine lv_iload_n hx hb dX3_needCovered_20 rfl (lv_at hl 2 rfl) ?_
          refine lv_aload_n hx hb dX3_needCovered_21 rfl (lv_at hl 1 rfl) ?_
          refine lv_iload_n hx hb dX3_needCovered_22 rfl (lv_at hl 3 rfl) ?_
          refine g_Vi (As := [.int x3_4]) (rest := [.int x2_3]) S hK hN hP hS (qX1_needOf l D E ad L A hF hLx M2 k1 x3_4 hk1 _ hw) (cwV 1 hts gX3_needCovered_X1_needOf rfl rfl rfl eX1_needOf ⟨Nat.le_of_ble_eq_true rfl, Nat.le_of_ble_eq_true rfl⟩) (hLx.h (f := 2) hk1) (gC2 _ _ _ _) gcl1 rfl rfl rfl hl.1 (Nat.le_of_ble_eq_true rfl) ⟨Nat.zero_le _, Nat.zero_le _⟩ dX3_needCovered_23 (fun r9 M8 H locs hw hP hS => ?_)
          refine lv_iadd hx hb dX3_needCovered_26 ?_
          refine lv_istore_n (lv' := [(2, .int (x2_3 + r9)), (0, .ref (ad 14 0)), (1, .ref (ad 2 k1)), (3, .int x3_4)]) hx hb dX3_needCovered_27 rfl hl (by decide) rfl (fun ls hl => ?_)
          refine lv_iinc (v := (x3_4 + (1 : Int32))) (lv' := [(3, .int (x3_4 + (1 : Int32))), (2, .int (x2_3 + r9)), (0, .ref (ad 14 0)), (1, .ref (ad 2 k1))]) hx hb dX3_needCovered_28 hl (k := 3) rfl rfl (by decide) rfl (fun ls hl => ?_)
          refine lv_goto (tgt := 4) hx hb dX3_needCovered_31 (by decide) ?_
          exact ihn1 _ _ _ _ _ _ hw hP hS (lv_sub hl [2, 3, 1, 0] rfl)
  exact hlX3_needCovered_L4 n13 _ _ _ _ _ _ hw hP hS (lv_sub hl [2, 3, 1, 0] rfl)
abbrev rmX3_sumOfGains : Room := { frames := 0, cells := 0, slots := 0, locals := 0 }
theorem eX3_sumOfGains : yX3_sumOfGains.cls = RX3 ∧ yX3_sumOfGains.cls ≠ "java/lang/invoke/MethodHandle" ∧ yX3_sumOfGains.cls ≠ "java/lang/invoke/VarHandle" ∧ (parseMethodDescriptor yX3_sumOfGains.desc).map (fun d => d.parameters.length) = some 0 := by decide +kernel
theorem iX3_sumOfGains_X3 : ∀ w ∈ wsX30, w ∈ wsX3_sumOfGains := fun _ h => List.mem_cons_of_mem _ (List.mem_append_right _ (h))
theorem mX3_sumOfGains_1 : Cond.fieldLink RX3 25 "PracticeSheets$Sheet" "size" "I" ∈ wsX3_sumOfGains := List.mem_of_getElem? (i := 1) rfl
theorem mX3_sumOfGains_2 : Cond.fieldLink RX3 15 "PracticeSheets$Sheet" "gains" "[I" ∈ wsX3_sumOfGains := List.mem_of_getElem? (i := 2) rfl
set_option maxHeartbeats 4000000 in
set_option maxRecDepth 100000 in
theorem qX3_sumOfGains (l : Launch) (D : va_G) (E : Nat → ClassId) (ad : Nat → Nat → Nat) (L : List (Nat × Nat)) (A : Nat → Prop) (hF : gF E ad L A) (hLx : gLx L) (M0 : gW)  (K : Int32 → gW → Prop) (hw : wX3_sumOfGains M0 K) : Met l yX3_sumOfGains wsX3_sumOfGains rmX3_sumOfGains (va_Pc [.ref (ad 14 0)] (gPre D E ad L M0)) (gQi D E ad L A K) 0 0 A := by
  refine Met.ofW (cc := cX3_sumOfGains) (maxL := 3) (ret := (some .int)) (by decide) rfl ?_
  intro p e s m args below meth c s₁ B hml hv
  obtain ⟨rfl, hP, hK, hN⟩ := hv
  have hx := B.exec
  have hb := B.bytes
  have hr := B.returns
  have hts := atoms_spec (ws := wsX3_sumOfGains) B.pre
  have hown : s.vm.findClass RX3 = some m.cls := findClass_of_methodNamed B.named
  have hlocks := B.notSynchronized
  have S : CallFix p m c cX3_sumOfGains 3 s ([.ref (ad 14 0)] : List Value).toArray wsX3_sumOfGains RX3 := ⟨hx, hb, hml, hown, hts⟩
  have hS : va_S A s.heap s.heap [] := va_S.rf
  have hl := lv_entry ([.ref (ad 14 0)]) (n := 3) (Nat.le_of_ble_eq_true rfl)
  rw [lg_entry_eq]
  generalize (lg_sl ([.ref (ad 14 0)]) ++ List.replicate (3 - (lg_sl ([.ref (ad 14 0)])).length) Slot.unset).toArray = ls at hl ⊢
  have hl : lv_has ls 3 [(0, .ref (ad 14 0))] := hl
  refine lv_iconst (v := (0 : Int32)) hx hb dX3_sumOfGains_0 (by decide) ?_
  refine lv_istore_n (lv' := [(1, .int (0 : Int32)), (0, .ref (ad 14 0))]) hx hb dX3_sumOfGains_1 rfl hl (by decide) rfl (fun ls hl => ?_)
  refine lv_iconst (v := (0 : Int32)) hx hb dX3_sumOfGains_2 (by decide) ?_
  refine lv_istore_n (lv' := [(2, .int (0 : Int32)), (1, .int (0 : Int32)), (0, .ref (ad 14 0))]) hx hb dX3_sumOfGains_3 rfl hl (by decide) rfl (fun ls hl => ?_)
  obtain ⟨n10, hw⟩ := hw
  have hxX3_sumOfGains_L4_0 : ∀ (M7 : gW) (x1_8 : Int32) (x2_9 : Int32) (H : Heap) (locs : List Loc) (ls : Array Slot), (K x1_8 M7) → va_P D vwCl (gL E ad L M7) H → va_S A s.heap H locs → lv_has ls 3 [(0, .ref (ad 14 0)), (1, .int x1_8), (2, .int x2_9)] → W p l e (headSpec wsX3_sumOfGains rmX3_sumOfGains).room s m (([.ref (ad 14 0)] : List Value).toArray) below meth c H locs 0 0 (MQ below (gQi D E ad L A K) ([.ref (ad 14 0)] : List Value).toArray s 0 0 A) (F0 m 27 ls []) := by
    intro M7 x1_8 x2_9 H locs ls hw hP hS hl
    refine lv_iload_n hx hb dX3_sumOfGains_27 rfl (lv_at hl 1 rfl) ?_
    exact g_iret hx hb hr hlocks hw hP hS dX3_sumOfGains_28
  have hlX3_sumOfGains_L4 : ∀ (n1 : Nat) (M2 : gW) (x1_3 : Int32) (x2_4 : Int32) (H : Heap) (locs : List Loc) (ls : Array Slot), wX3_sumOfGains_L4 (fun M7 x1_8 x2_9 => (K x1_8 M7)) n1 M2 x1_3 x2_4 → va_P D vwCl (gL E ad L M2) H → va_S A s.heap H locs → lv_has ls 3 [(0, .ref (ad 14 0)), (1, .int x1_3), (2, .int x2_4)] → W p l e (headSpec wsX3_sumOfGains rmX3_sumOfGains).room s m (([.ref (ad 14 0)] : List Value).toArray) below meth c H locs 0 0 (MQ below (gQi D E ad L A K) ([.ref (ad 14 0)] : List Value).toArray s 0 0 A) (F0 m 4 ls []) := by
    intro n1
    induction n1 with
    | zero => intro M2 x1_3 x2_4 H locs ls hw; exact False.elim hw
    | succ n1 ihn1 =>
      intro M2 x1_3 x2_4 H locs ls hw hP hS hl
      refine lv_iload_n hx hb dX3_sumOfGains_4 rfl (lv_at hl 2 rfl) ?_
      refine lv_aload_n hx hb dX3_sumOfGains_5 rfl (lv_at hl 0 rfl) ?_
      refine g_get (v := .int (M2 14 0 4)) hx hb hts hown hK hP (hLx.h (f := 14) (by decide)) (gC14 _ _ _ _) gcl3 iX3_sumOfGains_X3 4 (by decide) mX3_sumOfGains_1 rfl rfl dX3_sumOfGains_6 ?_
      refine lv_icmp_ge (tgt := 27) hx hb dX3_sumOfGains_9 (by decide) (fun c5 => ?_) (fun c5 => ?_)
      · have hw := hw.1 c5
        exact hxX3_sumOfGains_L4_0 _ _ _ _ _ _ hw hP hS (lv_sub hl [0, 1, 2] rfl)
      · have hw := hw.2 c5
        refine lv_iload_n hx hb dX3_sumOfGains_12 rfl (lv_at hl 1 rfl) ?_
        refine lv_aload_n hx hb dX3_sumOfGains_13 rfl (lv_at hl 0 rfl) ?_
        refine g_get (v := .ref (ad 16 0)) hx hb hts hown hK hP (hLx.h (f := 14) (by decide)) (gC14 _ _ _ _) gcl3 iX3_sumOfGains_X3 1 (by decide) mX3_sumOfGains_2 rfl rfl dX3_sumOfGains_14 ?_
        refine lv_iload_n hx hb dX3_sumOfGains_17 rfl (lv_at hl 2 rfl) ?_
        have hb6 := hw.1
        have hw := hw.2
        refine g_iald hx hb hK hP (hLx.h (f := 16) (by decide)) (gC16 _ _ _ _) hb6 dX3_sumOfGains_18 ?_
        refine lv_iadd hx hb dX3_sumOfGains_19 ?_
        refine lv_istore_n (lv' := [(1, .int (x1_3 + (M2 16 0 x2_4.toNatClampNeg))), (0, .ref (ad 14 0)), (2, .int x2_4)]) hx hb dX3_sumOfGains_20 rfl hl (by decide) rfl (fun ls hl => ?_)
        refine lv_iinc (v := (x2_4 + (1 : Int32))) (lv' := [(2, .int (x2_4 + (1 : Int32))), (1, .int (x1_3 + (M2 16 0 x2_4.toNatClampNeg))), (0, .ref (ad 14 0))]) hx hb dX3_sumOfGains_21 hl (k := 2) rfl rfl (by decide) rfl (fun ls hl => ?_)
        refine lv_goto (tgt := 4) hx hb dX3_sumOfGains_24 (by decide) ?_
        exact ihn1 _ _ _ _ _ _ hw hP hS (lv_sub hl [2, 1, 0] rfl)
  exact hlX3_sumOfGains_L4 n10 _ _ _ _ _ _ hw hP hS (lv_sub hl [2, 1, 0] rfl)
abbrev rmX7_at : Room := { frames := 0, cells := 0, slots := 0, locals := 0 }
theorem eX7_at : yX7_at.cls = RX7 ∧ yX7_at.cls ≠ "java/lang/invoke/MethodHandle" ∧ yX7_at.cls ≠ "java/lang/invoke/VarHandle" ∧ (parseMethodDescriptor yX7_at.desc).map (fun d => d.parameters.length) = some 1 := by decide +kernel
theorem iX7_at_X7 : ∀ w ∈ wsX70, w ∈ wsX7_at := fun _ h => List.mem_cons_of_mem _ (List.mem_append_right _ (h))
theorem mX7_at_1 : Cond.fieldLink RX7 18 "PracticeSheets$WordList" "size" "I" ∈ wsX7_at := List.mem_of_getElem? (i := 1) rfl
theorem mX7_at_2 : Cond.fieldLink RX7 11 "PracticeSheets$WordList" "words" "[LPracticeSheets$Word;" ∈ wsX7_at := List.mem_of_getElem? (i := 2) rfl
set_option maxHeartbeats 4000000 in
set_option maxRecDepth 100000 in
theorem qX7_at (l : Launch) (D : va_G) (E : Nat → ClassId) (ad : Nat → Nat → Nat) (L : List (Nat × Nat)) (A : Nat → Prop) (hF : gF E ad L A) (hLx : gLx L) (M0 : gW) (k0 : Nat) (a1 : Int32) (hk0 : k0 < gN 5) (K : Option Nat → gW → Prop) (hw : wX7_at M0 k0 a1 K) : Met l yX7_at wsX7_at rmX7_at (va_Pc [.ref (ad 5 k0), .int a1] (gPre D E ad L M0)) (gQq D E ad L A K) 0 0 A := by
  refine Met.ofW (cc := cX7_at) (maxL := 2) (ret := (some (.object "PracticeSheets$Word"))) (by decide) rfl ?_
  intro p e s m args below meth c s₁ B hml hv
  obtain ⟨rfl, hP, hK, hN⟩ := hv
  have hx := B.exec
  have hb := B.bytes
  have hr := B.returns
  have hts := atoms_spec (ws := wsX7_at) B.pre
  have hown : s.vm.findClass RX7 = some m.cls := findClass_of_methodNamed B.named
  have hlocks := B.notSynchronized
  have S : CallFix p m c cX7_at 2 s ([.ref (ad 5 k0), .int a1] : List Value).toArray wsX7_at RX7 := ⟨hx, hb, hml, hown, hts⟩
  have hS : va_S A s.heap s.heap [] := va_S.rf
  have hl := lv_entry ([.ref (ad 5 k0), .int a1]) (n := 2) (Nat.le_of_ble_eq_true rfl)
  rw [lg_entry_eq]
  generalize (lg_sl ([.ref (ad 5 k0), .int a1]) ++ List.replicate (2 - (lg_sl ([.ref (ad 5 k0), .int a1])).length) Slot.unset).toArray = ls at hl ⊢
  have hl : lv_has ls 2 [(0, .ref (ad 5 k0)), (1, .int a1)] := hl
  refine lv_iload_n hx hb dX7_at_0 rfl (lv_at hl 1 rfl) ?_
  refine lv_if_lt (tgt := 21) hx hb dX7_at_1 (by decide) (fun c1 => ?_) (fun c1 => ?_)
  · have hw := hw.1 c1
    refine lv_null hx hb dX7_at_21 ?_
    exact g_aretN hx hb hr hlocks hw hP hS dX7_at_22
  · have hw := hw.2 c1
    refine lv_iload_n hx hb dX7_at_4 rfl (lv_at hl 1 rfl) ?_
    refine lv_aload_n hx hb dX7_at_5 rfl (lv_at hl 0 rfl) ?_
    refine g_get (v := .int (M0 5 k0 1)) hx hb hts hown hK hP (hLx.h (f := 5) hk0) (gC5 _ _ _ _) gcl7 iX7_at_X7 1 (by decide) mX7_at_1 rfl rfl dX7_at_6 ?_
    refine lv_icmp_ge (tgt := 21) hx hb dX7_at_9 (by decide) (fun c2 => ?_) (fun c2 => ?_)
    · have hw := hw.1 c2
      refine lv_null hx hb dX7_at_21 ?_
      exact g_aretN hx hb hr hlocks hw hP hS dX7_at_22
    · have hw := hw.2 c2
      refine lv_aload_n hx hb dX7_at_12 rfl (lv_at hl 0 rfl) ?_
      refine g_get (v := .ref (ad 6 k0)) hx hb hts hown hK hP (hLx.h (f := 5) hk0) (gC5 _ _ _ _) gcl7 iX7_at_X7 0 (by decide) mX7_at_2 rfl rfl dX7_at_13 ?_
      refine lv_iload_n hx hb dX7_at_16 rfl (lv_at hl 1 rfl) ?_
      have hb3 := hw.1
      have hw := hw.2
      refine g_aldw hx hb hK hP (hLx.h (f := 6) hk0) hb3 dX7_at_17 ?_
      refine lv_goto (tgt := 22) hx hb dX7_at_18 (by decide) ?_
      exact g_aret hx hb hr hlocks hw hP hS dX7_at_22
abbrev rmX4_practise : Room := { frames := 3, cells := 0, slots := 0, locals := 63 }
theorem eX4_practise : yX4_practise.cls = RX4 ∧ yX4_practise.cls ≠ "java/lang/invoke/MethodHandle" ∧ yX4_practise.cls ≠ "java/lang/invoke/VarHandle" ∧ (parseMethodDescriptor yX4_practise.desc).map (fun d => d.parameters.length) = some 1 := by decide +kernel
theorem iX4_practise_X3 : ∀ w ∈ wsX30, w ∈ wsX4_practise := fun _ h => List.mem_cons_of_mem _ (List.mem_append_left _ (List.mem_append_left _ (List.mem_append_left _ (List.mem_append_left _ (List.mem_append_right _ (h))))))
theorem iX4_practise_X4 : ∀ w ∈ wsX40, w ∈ wsX4_practise := fun _ h => List.mem_cons_of_mem _ (List.mem_append_left _ (List.mem_append_left _ (List.mem_append_left _ (List.mem_append_right _ (h)))))
theorem mX4_practise_1 : Cond.fieldLink RX4 21 "PracticeSheets$State" "words" "LPracticeSheets$WordList;" ∈ wsX4_practise := List.mem_of_getElem? (i := 1) rfl
theorem mX4_practise_2 : Cond.fieldLink RX4 12 "PracticeSheets$State" "practice" "LPracticeSheets$Practice;" ∈ wsX4_practise := List.mem_of_getElem? (i := 2) rfl
theorem mX4_practise_3 : Cond.fieldLink RX4 32 "PracticeSheets$State" "written" "I" ∈ wsX4_practise := List.mem_of_getElem? (i := 3) rfl
theorem mX4_practise_4 : Cond.fieldLink RX4 38 "PracticeSheets$State" "sheets" "I" ∈ wsX4_practise := List.mem_of_getElem? (i := 4) rfl
set_option maxHeartbeats 4000000 in
set_option maxRecDepth 100000 in
theorem qX4_practise (l : Launch) (D : va_G) (E : Nat → ClassId) (ad : Nat → Nat → Nat) (L : List (Nat × Nat)) (A : Nat → Prop) (hF : gF E ad L A) (hLx : gLx L) (M0 : gW) (k0 : Nat) (hk0 : k0 < gN 1) (K : gW → Prop) (hw : wX4_practise M0 k0 K) : Met l yX4_practise wsX4_practise rmX4_practise (va_Pc [.ref (ad 1 k0), .ref (ad 14 0)] (gPre D E ad L M0)) (gQv D E ad L A K) 0 0 A := by
  refine Met.ofW (cc := cX4_practise) (maxL := 4) (ret := none) (by decide) rfl ?_
  intro p e s m args below meth c s₁ B hml hv
  obtain ⟨rfl, hP, hK, hN⟩ := hv
  have hx := B.exec
  have hb := B.bytes
  have hr := B.returns
  have hts := atoms_spec (ws := wsX4_practise) B.pre
  have hown : s.vm.findClass RX4 = some m.cls := findClass_of_methodNamed B.named
  have hlocks := B.notSynchronized
  have S : CallFix p m c cX4_practise 4 s ([.ref (ad 1 k0), .ref (ad 14 0)] : List Value).toArray wsX4_practise RX4 := ⟨hx, hb, hml, hown, hts⟩
  have hS : va_S A s.heap s.heap [] := va_S.rf
  have hl := lv_entry ([.ref (ad 1 k0), .ref (ad 14 0)]) (n := 4) (Nat.le_of_ble_eq_true rfl)
  rw [lg_entry_eq]
  generalize (lg_sl ([.ref (ad 1 k0), .ref (ad 14 0)]) ++ List.replicate (4 - (lg_sl ([.ref (ad 1 k0), .ref (ad 14 0)])).length) Slot.unset).toArray = ls at hl ⊢
  have hl : lv_has ls 4 [(0, .ref (ad 1 k0)), (1, .ref (ad 14 0))] := hl
  refine lv_iconst (v := (0 : Int32)) hx hb dX4_practise_0 (by decide) ?_
  refine lv_istore_n (lv' := [(2, .int (0 : Int32)), (0, .ref (ad 1 k0)), (1, .ref (ad 14 0))]) hx hb dX4_practise_1 rfl hl (by decide) rfl (fun ls hl => ?_)
  obtain ⟨n17, hw⟩ := hw
  have hxX4_practise_L2_0 : ∀ (M13 : gW) (x2_14 : Int32) (H : Heap) (locs : List Loc) (ls : Array Slot), (∀ M15 : gW, M15 = gU M13 1 k0 (upd (M13 1 k0) 6 ((M13 1 k0 6) + (1 : Int32))) → (K M15)) → va_P D vwCl (gL E ad L M13) H → va_S A s.heap H locs → lv_has ls 4 [(0, .ref (ad 1 k0)), (1, .ref (ad 14 0)), (2, .int x2_14)] → W p l e (headSpec wsX4_practise rmX4_practise).room s m (([.ref (ad 1 k0), .ref (ad 14 0)] : List Value).toArray) below meth c H locs 0 0 (MQ below (gQv D E ad L A K) ([.ref (ad 1 k0), .ref (ad 14 0)] : List Value).toArray s 0 0 A) (F0 m 52 ls []) := by
    intro M13 x2_14 H locs ls hw hP hS hl
    refine lv_aload_n hx hb dX4_practise_52 rfl (lv_at hl 0 rfl) ?_
    refine lv_dup hx hb dX4_practise_53 rfl ?_
    refine g_get (v := .int (M13 1 k0 6)) hx hb hts hown hK hP (hLx.h (f := 1) hk0) (gC1 _ _ _ _) gcl4 iX4_practise_X4 6 (by decide) mX4_practise_4 rfl rfl dX4_practise_54 ?_
    refine lv_iconst (v := (1 : Int32)) hx hb dX4_practise_57 (by decide) ?_
    refine lv_iadd hx hb dX4_practise_58 ?_
    refine g_put hx hb hF hts hown hK hP hS (hLx.h (f := 1) hk0) (gC1 _ _ _ _) gcl4 iX4_practise_X4 tyX4 tyX4_ok nmX4 6 (by decide) mX4_practise_4 rfl rfl rfl rfl (Nat.lt_of_lt_of_eq (by decide : 6 < 7) rfl) rfl dX4_practise_59 (fun M15 e16 H locs hP hS => ?_)
    have hw := hw M15 e16
    exact g_vret hx hb hr hlocks hw hP hS dX4_practise_62
  have hlX4_practise_L2 : ∀ (n1 : Nat) (M2 : gW) (x2_3 : Int32) (H : Heap) (locs : List Loc) (ls : Array Slot), wX4_practise_L2 k0 (fun M13 x2_14 => (∀ M15 : gW, M15 = gU M13 1 k0 (upd (M13 1 k0) 6 ((M13 1 k0 6) + (1 : Int32))) → (K M15))) n1 M2 x2_3 → va_P D vwCl (gL E ad L M2) H → va_S A s.heap H locs → lv_has ls 4 [(0, .ref (ad 1 k0)), (1, .ref (ad 14 0)), (2, .int x2_3)] → W p l e (headSpec wsX4_practise rmX4_practise).room s m (([.ref (ad 1 k0), .ref (ad 14 0)] : List Value).toArray) below meth c H locs 0 0 (MQ below (gQv D E ad L A K) ([.ref (ad 1 k0), .ref (ad 14 0)] : List Value).toArray s 0 0 A) (F0 m 2 ls []) := by
    intro n1
    induction n1 with
    | zero => intro M2 x2_3 H locs ls hw; exact False.elim hw
    | succ n1 ihn1 =>
      intro M2 x2_3 H locs ls hw hP hS hl
      refine lv_iload_n hx hb dX4_practise_2 rfl (lv_at hl 2 rfl) ?_
      refine lv_aload_n hx hb dX4_practise_3 rfl (lv_at hl 1 rfl) ?_
      refine g_getN (v := .int (M2 14 0 4)) hx hb hts hown hK hN hP (hLx.h (f := 14) (by decide)) (gC14 _ _ _ _) gcl3 iX4_practise_X3 4 (by decide) 30 rfl rfl rfl dX4_practise_4 ?_
      refine lv_icmp_ge (tgt := 52) hx hb dX4_practise_7 (by decide) (fun c4 => ?_) (fun c4 => ?_)
      · have hw := hw.1 c4
        exact hxX4_practise_L2_0 _ _ _ _ _ hw hP hS (lv_sub hl [0, 1, 2] rfl)
      · have hw := hw.2 c4
        refine lv_aload_n hx hb dX4_practise_10 rfl (lv_at hl 0 rfl) ?_
        refine g_get (v := .ref (ad 5 k0)) hx hb hts hown hK hP (hLx.h (f := 1) hk0) (gC1 _ _ _ _) gcl4 iX4_practise_X4 1 (by decide) mX4_practise_1 rfl rfl dX4_practise_11 ?_
        refine lv_aload_n hx hb dX4_practise_14 rfl (lv_at hl 1 rfl) ?_
        refine g_getN (v := .ref (ad 15 0)) hx hb hts hown hK hN hP (hLx.h (f := 14) (by decide)) (gC14 _ _ _ _) gcl3 iX4_practise_X3 0 (by decide) 27 rfl rfl rfl dX4_practise_15 ?_
        refine lv_iload_n hx hb dX4_practise_18 rfl (lv_at hl 2 rfl) ?_
        have hb5 := hw.1
        have hw := hw.2
        refine g_iald hx hb hK hP (hLx.h (f := 15) (by decide)) (gC15 _ _ _ _) hb5 dX4_practise_19 ?_
        refine g_Vq (As := [.int (M2 15 0 x2_3.toNatClampNeg)]) (rest := []) S hK hN hP hS (qX7_at l D E ad L A hF hLx M2 k0 (M2 15 0 x2_3.toNatClampNeg) hk0 _ hw) (cwV 1 hts gX4_practise_X7_at rfl rfl rfl eX7_at ⟨Nat.le_of_ble_eq_true rfl, Nat.le_of_ble_eq_true rfl⟩) (hLx.h (f := 5) hk0) (gC5 _ _ _ _) gcl7 rfl rfl rfl hl.1 (Nat.le_of_ble_eq_true rfl) ⟨Nat.zero_le _, Nat.zero_le _⟩ dX4_practise_20 (fun M6 H locs hw hP hS => ?_) (fun o7 M6 H locs hw hP hS => ?_)
        · have hw := hw.1 rfl
          refine lv_astore_nN (lv' := [(3, .null), (0, .ref (ad 1 k0)), (1, .ref (ad 14 0)), (2, .int x2_3)]) hx hb dX4_practise_23 rfl hl (by decide) rfl (fun ls hl => ?_)
          refine lv_aload_nN hx hb dX4_practise_24 rfl (lv_at hl 0 rfl) ?_
          refine lv_ifnullN (tgt := 46) hx hb dX4_practise_25 (by decide) ?_
          refine lv_iinc (v := (x2_3 + (1 : Int32))) (lv' := [(2, .int (x2_3 + (1 : Int32))), (3, .null), (0, .ref (ad 1 k0)), (1, .ref (ad 14 0))]) hx hb dX4_practise_46 hl (k := 3) rfl rfl (by decide) rfl (fun ls hl => ?_)
          refine lv_goto (tgt := 2) hx hb dX4_practise_49 (by decide) ?_
          exact ihn1 _ _ _ _ _ hw hP hS (lv_sub hl [2, 3, 0] rfl)
        · have hw := hw.2 o7 rfl
          have hb9 := hw.1
          have hw := hw.2
          refine lv_astore_n (lv' := [(3, .ref (ad 7 o7)), (0, .ref (ad 1 k0)), (1, .ref (ad 14 0)), (2, .int x2_3)]) hx hb dX4_practise_23 rfl hl (by decide) rfl (fun ls hl => ?_)
          refine lv_aload_n hx hb dX4_practise_24 rfl (lv_at hl 0 rfl) ?_
          refine lv_ifnull hx hb dX4_practise_25 ?_
          refine lv_aload_n hx hb dX4_practise_28 rfl (lv_at hl 1 rfl) ?_
          refine g_get (v := .ref (ad 2 k0)) hx hb hts hown hK hP (hLx.h (f := 1) hk0) (gC1 _ _ _ _) gcl4 iX4_practise_X4 0 (by decide) mX4_practise_2 rfl rfl dX4_practise_29 ?_
          refine lv_aload_n hx hb dX4_practise_32 rfl (lv_at hl 0 rfl) ?_
          refine g_Vv (As := [.ref (ad 7 o7)]) (rest := []) S hK hN hP hS (qX1_addTriesOf l D E ad L A hF hLx M6 k0 o7 hk0 hb9 _ hw) (cwV 1 hts gX4_practise_X1_addTriesOf rfl rfl rfl eX1_addTriesOf ⟨Nat.le_of_ble_eq_true rfl, Nat.le_of_ble_eq_true rfl⟩) (hLx.h (f := 2) hk0) (gC2 _ _ _ _) gcl1 rfl rfl rfl hl.1 (Nat.le_of_ble_eq_true rfl) ⟨Nat.zero_le _, Nat.zero_le _⟩ dX4_practise_33 (fun M10 H locs hw hP hS => ?_)
          refine lv_aload_n hx hb dX4_practise_36 rfl (lv_at hl 1 rfl) ?_
          refine lv_dup hx hb dX4_practise_37 rfl ?_
          refine g_get (v := .int (M10 1 k0 4)) hx hb hts hown hK hP (hLx.h (f := 1) hk0) (gC1 _ _ _ _) gcl4 iX4_practise_X4 4 (by decide) mX4_practise_3 rfl rfl dX4_practise_38 ?_
          refine lv_iconst (v := (1 : Int32)) hx hb dX4_practise_41 (by decide) ?_
          refine lv_iadd hx hb dX4_practise_42 ?_
          refine g_put hx hb hF hts hown hK hP hS (hLx.h (f := 1) hk0) (gC1 _ _ _ _) gcl4 iX4_practise_X4 tyX4 tyX4_ok nmX4 4 (by decide) mX4_practise_3 rfl rfl rfl rfl (Nat.lt_of_lt_of_eq (by decide : 4 < 7) rfl) rfl dX4_practise_43 (fun M11 e12 H locs hP hS => ?_)
          have hw := hw M11 e12
          refine lv_iinc (v := (x2_3 + (1 : Int32))) (lv' := [(2, .int (x2_3 + (1 : Int32))), (3, .ref (ad 7 o7)), (0, .ref (ad 1 k0)), (1, .ref (ad 14 0))]) hx hb dX4_practise_46 hl (k := 3) rfl rfl (by decide) rfl (fun ls hl => ?_)
          refine lv_goto (tgt := 2) hx hb dX4_practise_49 (by decide) ?_
          exact ihn1 _ _ _ _ _ hw hP hS (lv_sub hl [2, 3, 0] rfl)
  exact hlX4_practise_L2 n17 _ _ _ _ _ hw hP hS (lv_sub hl [1, 2, 0] rfl)
