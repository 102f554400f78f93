/-! ===== LAYER 3: the law's loop and its start (printed by wip/whole/lawwalk.py) ===== -/
set_option maxHeartbeats 4000000 in
set_option maxRecDepth 100000 in
theorem l_loop {p : Program} {e : Env} {s : State} {m : MethodId} {below : List Frame} {meth : Method} {c : Code} {b L : Nat} {xs : Nat → Int32} {D : va_G} {E : Nat → ClassId} (l : Launch) (hx : p.tables.exec = Jvm.exec) (hb : c.code = cL_law) (hml : c.maxLocals = 4) (hown : s.vm.findClass RL = some m.cls) (hts : ∀ w ∈ wsL_law, w.before #[Value.ref b] s = true) (hX : va_X b L xs s s.heap) (hbl : b < s.heap.size) (hK : va_K D vwCl (gT E) s) (hN : gNw s) (hL : L ≤ 2048) (hr : meth.sig.returnType = ret) (hlocks : meth.locks = false) : ∀ (d j : Nat) (M1 M2 : gW) (H : Heap) (locs : List Loc) (ls : Array Slot), L < j + d → j ≤ L + 4 → INV M1 M2 → va_P D vwCl (gL E (adL s.heap.size) LX M1) H → va_P D vwCl (gL E (adL s.heap.size) LM M2) H → va_S (fun q => s.heap.size ≤ q) s.heap H locs → lv_has ls 4 [(0, .ref b), (1, .ref (adL s.heap.size 0 0)), (2, .ref (adL s.heap.size 21 0)), (3, .int (nI j))] → W p l e room_1 s m #[Value.ref b] below meth c H locs 600000 7302250 (lw_Z below #[Value.ref b] s) (F0 m 18 ls []) := by
  intro d
  induction d with
  | zero =>
    intro j M1 M2 H locs ls hd hj hI hP1 hP2 hS hl
    have hbA : ¬ s.heap.size ≤ b := Nat.not_le.mpr hbl
    refine lv_iload_n hx hb dL_law_18 rfl (lv_at hl 3 rfl) ?_
    refine lv_aload_n hx hb dL_law_19 rfl (lv_at hl 0 rfl) ?_
    refine va_slen hx hb hX hbl hbA hS dL_law_20 ?_
    refine lv_iconst (v := (4 : Int32)) hx hb dL_law_21 (by decide) ?_
    refine lv_isub hx hb dL_law_22 ?_
    have e4 : (nI L - nI 4).toInt = (L : Int) - (4 : Nat) := pk_sub_toInt (a := L) (b := 4) (by omega) (by omega)
    refine lv_icmp_gt (tgt := 701) hx hb dL_law_23 (by decide) (fun _ => ?_) (fun z => absurd (Int32.lt_iff_toInt_lt.mpr ?_) z)
    · refine lv_iconst (v := (1 : Int32)) hx hb dL_law_701 (by decide) ?_
      exact va_forget hS.2.2 (lw_ret hx hb hr hlocks dL_law_702)
    · show (nI L - nI 4).toInt < (nI j).toInt
      rw [e4, nI_toInt (by omega)]; omega
  | succ d ih =>
    intro j M1 M2 H locs ls hd hj hI hP1 hP2 hS hl
    have hbA : ¬ s.heap.size ≤ b := Nat.not_le.mpr hbl
    refine lv_iload_n hx hb dL_law_18 rfl (lv_at hl 3 rfl) ?_
    refine lv_aload_n hx hb dL_law_19 rfl (lv_at hl 0 rfl) ?_
    refine va_slen hx hb hX hbl hbA hS dL_law_20 ?_
    refine lv_iconst (v := (4 : Int32)) hx hb dL_law_21 (by decide) ?_
    refine lv_isub hx hb dL_law_22 ?_
    have e4 : (nI L - nI 4).toInt = (L : Int) - (4 : Nat) := pk_sub_toInt (a := L) (b := 4) (by omega) (by omega)
    refine lv_icmp_gt (tgt := 701) hx hb dL_law_23 (by decide) (fun _ => ?_) (fun z => ?_)
    · refine lv_iconst (v := (1 : Int32)) hx hb dL_law_701 (by decide) ?_
      exact va_forget hS.2.2 (lw_ret hx hb hr hlocks dL_law_702)
    · have hj4 : j + 4 ≤ L := by
        rcases Nat.lt_or_ge L (j + 4) with y | y
        · refine absurd (Int32.lt_iff_toInt_lt.mpr ?_) z
          show (nI L - nI 4).toInt < (nI j).toInt
          rw [e4, nI_toInt (by omega)]; omega
        · exact y
      have hback : ∀ (M1 M2 : gW) (H : Heap) (locs : List Loc) (ls : Array Slot), INV M1 M2 → va_P D vwCl (gL E (adL s.heap.size) LX M1) H → va_P D vwCl (gL E (adL s.heap.size) LM M2) H → va_S (fun q => s.heap.size ≤ q) s.heap H locs → lv_has ls 4 [(0, .ref b), (1, .ref (adL s.heap.size 0 0)), (2, .ref (adL s.heap.size 21 0)), (3, .int (nI j))] → W p l e room_1 s m #[Value.ref b] below meth c H locs 600000 7302250 (lw_Z below #[Value.ref b] s) (F0 m 695 ls []) := by
        intro M1 M2 H locs ls hI hP1 hP2 hS hl
        refine lv_iinc (v := nI (j + 4)) (lv' := [(3, .int (nI (j + 4))), (0, .ref b), (1, .ref (adL s.heap.size 0 0)), (2, .ref (adL s.heap.size 21 0))]) hx hb dL_law_695 hl (k := 3) rfl (nI_add j 4) (by decide) rfl (fun ls hl => ?_)
        refine lv_goto (tgt := 18) hx hb dL_law_698 (by decide) ?_
        exact ih (j + 4) M1 M2 H locs ls (by omega) (by omega) hI hP1 hP2 hS (lv_sub hl [1, 2, 3, 0] rfl)
      refine lv_aload_n hx hb dL_law_26 rfl (lv_at hl 0 rfl) ?_
      refine lv_iload_n hx hb dL_law_27 rfl (lv_at hl 3 rfl) ?_
      refine va_sld hx hb hX hbl hbA hS (pk_in j L (by omega)) dL_law_28 ?_
      refine lv_bipush (v := (31 : Int32)) hx hb dL_law_29 (by decide) ?_
      refine lv_iand hx hb dL_law_31 ?_
      generalize xs (nI j).toNatClampNeg &&& (31 : Int32) = v
      rcases pk_ix v (n := 21) (by omega) with z0 | z0 | ⟨w, hw, rfl⟩
      · exact lv_tableOut (tgt := 695) hx hb dL_law_32 (Or.inl (Int32.lt_iff_toInt_lt.mp z0)) (by decide) (hback M1 M2 H locs ls hI hP1 hP2 hS hl)
      · have z1 : (20 : Int) < v.toInt := by
          have := Int32.le_iff_toInt_le.mp z0
          rw [nI_toInt (by omega)] at this; omega
        exact lv_tableOut (tgt := 695) hx hb dL_law_32 (Or.inr z1) (by decide) (hback M1 M2 H locs ls hI hP1 hP2 hS hl)
      · match w, hw with
        | 0, _ => exact lv_tableIn (tgt := 132) hx hb dL_law_32 (by decide) (by decide) (show _ = some (100 : Int) from rfl) (by decide) (lc_write l hx hb hml hown hts hX hbl hK hN hj4 hL hback hI hP1 hP2 hS hl)
        | 1, _ => exact lv_tableIn (tgt := 145) hx hb dL_law_32 (by decide) (by decide) (show _ = some (113 : Int) from rfl) (by decide) (lc_pass l hx hb hml hown hts hX hbl hK hN hj4 hL hback hI hP1 hP2 hS hl)
        | 2, _ => exact lv_tableIn (tgt := 168) hx hb dL_law_32 (by decide) (by decide) (show _ = some (136 : Int) from rfl) (by decide) (lc_setUntried l hx hb hml hown hts hX hbl hK hN hj4 hL hback hI hP1 hP2 hS hl)
        | 3, _ => exact lv_tableIn (tgt := 191) hx hb dL_law_32 (by decide) (by decide) (show _ = some (159 : Int) from rfl) (by decide) (lc_addWords l hx hb hml hown hts hX hbl hK hN hj4 hL hback hI hP1 hP2 hS hl)
        | 4, _ => exact lv_tableIn (tgt := 204) hx hb dL_law_32 (by decide) (by decide) (show _ = some (172 : Int) from rfl) (by decide) (lc_removeWord l hx hb hml hown hts hX hbl hK hN hj4 hL hback hI hP1 hP2 hS hl)
        | 5, _ => exact lv_tableIn (tgt := 227) hx hb dL_law_32 (by decide) (by decide) (show _ = some (195 : Int) from rfl) (by decide) (lc_doSheet l hx hb hml hown hts hX hbl hK hN hj4 hL hback hI hP1 hP2 hS hl)
        | 6, _ => exact lv_tableIn (tgt := 250) hx hb dL_law_32 (by decide) (by decide) (show _ = some (218 : Int) from rfl) (by decide) (lc_type l hx hb hml hown hts hX hbl hK hN hj4 hL hback hI hP1 hP2 hS hl)
        | 7, _ => exact lv_tableIn (tgt := 275) hx hb dL_law_32 (by decide) (by decide) (show _ = some (243 : Int) from rfl) (by decide) (lc_clearText l hx hb hml hown hts hX hbl hK hN hj4 hL hback hI hP1 hP2 hS hl)
        | 8, _ => exact lv_tableIn (tgt := 288) hx hb dL_law_32 (by decide) (by decide) (show _ = some (256 : Int) from rfl) (by decide) (lc_undo l hx hb hml hown hts hX hbl hK hN hj4 hL hback hI hP1 hP2 hS hl)
        | 9, _ => exact lv_tableIn (tgt := 301) hx hb dL_law_32 (by decide) (by decide) (show _ = some (269 : Int) from rfl) (by decide) (lc_keep l hx hb hml hown hts hX hbl hK hN hj4 hL hback hI hP1 hP2 hS hl)
        | 10, _ => exact lv_tableIn (tgt := 314) hx hb dL_law_32 (by decide) (by decide) (show _ = some (282 : Int) from rfl) (by decide) (lc_restore l hx hb hml hown hts hX hbl hK hN hj4 hL hback hI hP1 hP2 hS hl)
        | 11, _ => exact lv_tableIn (tgt := 327) hx hb dL_law_32 (by decide) (by decide) (show _ = some (295 : Int) from rfl) (by decide) (lc_letter l hx hb hml hown hts hX hbl hK hN hj4 hL hback hI hP1 hP2 hS hl)
        | 12, _ => exact lv_tableIn (tgt := 362) hx hb dL_law_32 (by decide) (by decide) (show _ = some (330 : Int) from rfl) (by decide) (lc_join l hx hb hml hown hts hX hbl hK hN hj4 hL hback hI hP1 hP2 hS hl)
        | 13, _ => exact lv_tableIn (tgt := 409) hx hb dL_law_32 (by decide) (by decide) (show _ = some (377 : Int) from rfl) (by decide) (lc_word l hx hb hml hown hts hX hbl hK hN hj4 hL hback hI hP1 hP2 hS hl)
        | 14, _ => exact lv_tableIn (tgt := 442) hx hb dL_law_32 (by decide) (by decide) (show _ = some (410 : Int) from rfl) (by decide) (lc_letterOf l hx hb hml hown hts hX hbl hK hN hj4 hL hback hI hP1 hP2 hS hl)
        | 15, _ => exact lv_tableIn (tgt := 475) hx hb dL_law_32 (by decide) (by decide) (show _ = some (443 : Int) from rfl) (by decide) (lc_sheet l hx hb hml hown hts hX hbl hK hN hj4 hL hback hI hP1 hP2 hS hl)
        | 16, _ => exact lv_tableIn (tgt := 518) hx hb dL_law_32 (by decide) (by decide) (show _ = some (486 : Int) from rfl) (by decide) (lc_covers l hx hb hml hown hts hX hbl hK hN hj4 hL hback hI hP1 hP2 hS hl)
        | 17, _ => exact lv_tableIn (tgt := 551) hx hb dL_law_32 (by decide) (by decide) (show _ = some (519 : Int) from rfl) (by decide) (lc_worst l hx hb hml hown hts hX hbl hK hN hj4 hL hback hI hP1 hP2 hS hl)
        | 18, _ => exact lv_tableIn (tgt := 600) hx hb dL_law_32 (by decide) (by decide) (show _ = some (568 : Int) from rfl) (by decide) (lc_missing l hx hb hml hown hts hX hbl hK hN hj4 hL hback hI hP1 hP2 hS hl)
        | 19, _ => exact lv_tableIn (tgt := 639) hx hb dL_law_32 (by decide) (by decide) (show _ = some (607 : Int) from rfl) (by decide) (lc_sheetsTo l hx hb hml hown hts hX hbl hK hN hj4 hL hback hI hP1 hP2 hS hl)
        | 20, _ => exact lv_tableIn (tgt := 672) hx hb dL_law_32 (by decide) (by decide) (show _ = some (640 : Int) from rfl) (by decide) (lc_count l hx hb hml hown hts hX hbl hK hN hj4 hL hback hI hP1 hP2 hS hl)
        | n + 21, h => exact absurd h (by omega)
set_option maxHeartbeats 4000000 in
set_option maxRecDepth 100000 in
/-- from the entry the law comes to its end with true -/
theorem whole_start {p : Program} {e : Env} {s : State} {m : MethodId} {below : List Frame} {meth : Method} {c : Code} (l : Launch) (hflags : l.flags = flags0) {b L : Nat} {xs : Nat → Int32} (hL : L ≤ 2048) (C0 : lw_At p s m meth c b L xs) : W p l e room_1 s m #[Value.ref b] below meth c s.heap [] 0 0 (lw_Z below #[Value.ref b] s) (entryFrame m ([Value.ref b] : List Value).toArray 4) := by
  obtain ⟨hx, hb, hr, hml, hown, hts0, hX, hbl, hlocks, -⟩ := C0
  have hts : ∀ w ∈ wsL_law, w.before #[Value.ref b] s = true := fun w hw => hts0 w (wsL_law_in w hw)
  have hown : s.vm.findClass RL = some m.cls := hown
  obtain ⟨D, hKn⟩ := kn_start hts0
  obtain ⟨E, hKa⟩ := ar_start hts0
  have hK : va_K D vwCl (gT E) s := ⟨hKn, hKa⟩
  have hN := gNw_start hts0
  obtain ⟨hA4, hA6⟩ := ao_start hts0
  have hy := lay_L s.heap.size
  have S : CallFix p m c cL_law 4 s #[Value.ref b] wsL_law RL := ⟨hx, hb, hml, hown, hts⟩
  have hS : va_S (fun q => s.heap.size ≤ q) s.heap s.heap [] := va_S.rf
  have hl := lv_entry ([.ref b]) (n := 4) (Nat.le_of_ble_eq_true rfl)
  rw [lg_entry_eq]
  generalize (lg_sl ([.ref b]) ++ List.replicate (4 - (lg_sl ([.ref b])).length) Slot.unset).toArray = ls at hl ⊢
  have hl : lv_has ls 4 [(0, .ref b)] := hl
  refine k_new (h := adL s.heap.size 0 0) (C := RX8) (T := TX8) (N := 8) (ci := 8) (fs := [.null, .null, .null, .null, .null, .null, .null, .int 0]) hx hb hts0 inX8 tyX8 tyX8_ok hown (wsL_law_in _ (List.mem_of_getElem? (i := 0) (by decide +kernel))) (wsL_law_in _ (List.mem_of_getElem? (i := 1) (by decide +kernel))) (wsL_law_in _ (List.mem_of_getElem? (i := 2) (by decide +kernel))) hK gcl8 (fun i hi => by obtain rfl | rfl | rfl | rfl | rfl | rfl | rfl | rfl := (by omega : i = 0 ∨ i = 1 ∨ i = 2 ∨ i = 3 ∨ i = 4 ∨ i = 5 ∨ i = 6 ∨ i = 7) <;> rfl) (show 0 + 1 ≤ 600000 by omega) (show 0 + 8 ≤ 7302250 by omega) rfl dL_law_0 (fun H1 e1 z1 o1 => ?_)
  have hS := kS_new hS rfl z1 o1
  refine lv_dup hx hb dL_law_3 rfl ?_
  refine va_callv (va_runI (As := []) (rest := [.ref (adL s.heap.size 0 0)]) S (iX8 l D E (adL s.heap.size) hy) (cwI 0 hts gL_law_X8_init rfl rfl rfl (hts _ (List.mem_of_getElem? (i := 2) (by decide +kernel))) (hts _ (List.mem_of_getElem? (i := 6) (by decide +kernel))) (hts _ (List.mem_of_getElem? (i := 7) (by decide +kernel))) rfl (by decide +kernel) ⟨(Nat.le_of_ble_eq_true rfl), (Nat.le_of_ble_eq_true rfl)⟩) ⟨iPre.blind _, fun U hU hW => iPre.at hK hA4 hA6 z1 e1 _ U hU hW⟩ rfl rfl hl.1 rfl (lv_room (Nat.le_of_ble_eq_true rfl)) dL_law_4 ⟨show 0 + 1 + 476 ≤ 600000 by omega, show 0 + 8 + 17730 ≤ 7302250 by omega⟩) hS (fun q _ h => h) (fun q h => h) (fun u t H2 locs ht hvm _ hB hz1 hk1 hS => ?_)
  rw [ht] at hB
  obtain ⟨hz2, hXB⟩ := hB
  have hP1 := XB_P hXB
  refine lv_astore_n (lv' := [(1, .ref (adL s.heap.size 0 0)), (0, .ref b)]) hx hb dL_law_7 rfl hl (by decide) rfl (fun ls hl => ?_)
  refine k_new (h := adL s.heap.size 21 0) (C := RX9) (T := TX9) (N := 19) (ci := 9) (fs := [.null, .null, .null, .null, .int 0, .null, .int 0, .null, .int 0, .null, .null, .int 0, .null, .null, .int 0, .null, .null, .null, .int 0]) hx hb hts0 inX9 tyX9 tyX9_ok hown (wsL_law_in _ (List.mem_of_getElem? (i := 3) (by decide +kernel))) (wsL_law_in _ (List.mem_of_getElem? (i := 4) (by decide +kernel))) (wsL_law_in _ (List.mem_of_getElem? (i := 5) (by decide +kernel))) hK gcl9 (fun i hi => by obtain rfl | rfl | rfl | rfl | rfl | rfl | rfl | rfl | rfl | rfl | rfl | rfl | rfl | rfl | rfl | rfl | rfl | rfl | rfl := (by omega : i = 0 ∨ i = 1 ∨ i = 2 ∨ i = 3 ∨ i = 4 ∨ i = 5 ∨ i = 6 ∨ i = 7 ∨ i = 8 ∨ i = 9 ∨ i = 10 ∨ i = 11 ∨ i = 12 ∨ i = 13 ∨ i = 14 ∨ i = 15 ∨ i = 16 ∨ i = 17 ∨ i = 18) <;> rfl) (show 0 + 1 + 476 + 1 ≤ 600000 by omega) (show 0 + 8 + 17730 + 19 ≤ 7302250 by omega) hz2 dL_law_8 (fun H3 e3 z3 o3 => ?_)
  have hS := kS_new hS hz2 z3 o3
  have hP1 := hP1.kept (fun i q hq => o3 q.1 (by have := (hP1 i q hq).lt; rw [hz2] at this; exact this))
  refine lv_dup hx hb dL_law_11 rfl ?_
  refine va_callv (va_runI (As := []) (rest := [.ref (adL s.heap.size 21 0)]) S (iX9 l D E (adL s.heap.size) hy) (cwI 0 hts gL_law_X9_init rfl rfl rfl (hts _ (List.mem_of_getElem? (i := 5) (by decide +kernel))) (hts _ (List.mem_of_getElem? (i := 109) (by decide +kernel))) (hts _ (List.mem_of_getElem? (i := 110) (by decide +kernel))) rfl (by decide +kernel) ⟨(Nat.le_of_ble_eq_true rfl), (Nat.le_of_ble_eq_true rfl)⟩) ⟨iPre.blind _, fun U hU hW => iPre.at hK hA4 hA6 z3 e3 _ U hU hW⟩ rfl rfl hl.1 rfl (lv_room (Nat.le_of_ble_eq_true rfl)) dL_law_12 ⟨show 0 + 1 + 476 + 1 + 13 ≤ 600000 by omega, show 0 + 8 + 17730 + 19 + 14696 ≤ 7302250 by omega⟩) hS (fun q _ h => Nat.le_trans (Nat.le_add_right _ _) h) (fun q h => Nat.le_trans (Nat.le_add_right _ _) h) (fun u t H4 locs ht hvm _ hB hz3 hk3 hS => ?_)
  rw [ht] at hB
  obtain ⟨hz4, hYB⟩ := hB
  have hP2 := YB_P hYB
  have hP1 := hP1.kept (fun i q hq => hk3 q.1 (hP1 i q hq).lt (fun z => by
    unfold gL at hq
    rw [List.getElem?_map] at hq
    cases h3 : LX[i]? with
    | none => rw [h3] at hq; cases hq
    | some q3 =>
      rw [h3] at hq; cases hq
      have h4 := (LX_A1 s.heap.size q3 (List.mem_of_getElem? h3)).2
      have h5 : s.heap.size + 477 ≤ adL s.heap.size q3.1 q3.2 := z
      exact absurd h5 (Nat.not_le.mpr h4)))
  refine lv_astore_n (lv' := [(2, .ref (adL s.heap.size 21 0)), (1, .ref (adL s.heap.size 0 0)), (0, .ref b)]) hx hb dL_law_15 rfl hl (by decide) rfl (fun ls hl => ?_)
  refine lv_iconst (v := (0 : Int32)) hx hb dL_law_16 (by decide) ?_
  refine lv_istore_n (lv' := [(3, .int (nI 0)), (2, .ref (adL s.heap.size 21 0)), (1, .ref (adL s.heap.size 0 0)), (0, .ref b)]) hx hb dL_law_17 rfl hl (by decide) rfl (fun ls hl => ?_)
  refine W.widen (k := 600000) (n := 7302250) (show 0 + 1 + 476 + 1 + 13 ≤ 600000 by omega) (show 0 + 8 + 17730 + 19 + 14696 ≤ 7302250 by omega) ?_
  exact l_loop l hx hb hml hown hts hX hbl hK hN hL hr hlocks (L + 1) 0 M0x M0m _ _ _ (by omega) (by omega) inv0 hP1 hP2 hS (lv_sub hl [3, 2, 1, 0] rfl)
