/-! ===== LAYER 3: the constructors, the last two (printed by wip/whole/initgen.py) ===== -/
abbrev rmX8_init : Room := { frames := 5, cells := 476, slots := 17730, locals := 94 }
set_option maxHeartbeats 4000000 in
set_option maxRecDepth 100000 in
theorem iX8 (l : Launch) (D : va_G) (E : Nat → ClassId) (ad : Nat → Nat → Nat) (hy : LAY ad)  : Met l yX8_init wsX8_init rmX8_init (va_Pc [.ref (ad 0 0)] (iPre D E (ad 0 0) (.inr (8, [.null, .null, .null, .null, .null, .null, .null, .int 0])))) (iQ (ad 0 0) 477 (XB D E ad)) 476 17730 (fun q => ad 0 0 ≤ q) := by
  refine Met.ofW (cc := cX8_init) (maxL := 1) (ret := none) (by decide) rfl ?_
  intro p e s m args below meth c s₁ B hml hv
  obtain ⟨rfl, hz, hself, hK, hA4, hA6⟩ := hv
  have hx := B.exec
  have hb := B.bytes
  have hr := B.returns
  have hts := atoms_spec (ws := wsX8_init) B.pre
  have hown : s.vm.findClass RX8 = some m.cls := findClass_of_methodNamed B.named
  have hlocks := B.notSynchronized
  have hin2 : meth.name = "<init>" := (name_of_methodNamed B.named B.method).1
  have hy1 := hy.2.2.2.2.2.2.1 0 (by omega)
  have hy2 := hy.2.2.2.2.2.2.1 1 (by omega)
  have hy3 := hy.2.2.2.2.2.2.1 2 (by omega)
  have hy4 := hy.2.2.2.2.2.2.2.1
  have hS : va_S (fun q => ad 0 0 ≤ q) s.heap s.heap [] := va_S.rf
  have hl := lv_entry ([.ref (ad 0 0)]) (n := 1) (Nat.le_of_ble_eq_true rfl)
  rw [lg_entry_eq]
  generalize (lg_sl ([.ref (ad 0 0)]) ++ List.replicate (1 - (lg_sl ([.ref (ad 0 0)])).length) Slot.unset).toArray = ls at hl ⊢
  have hl : lv_has ls 1 [(0, .ref (ad 0 0))] := hl
  refine lv_aload_n hx hb dX8_init_0 rfl (lv_at hl 0 rfl) ?_
  refine W.objInit hx hb hown (hts _ (List.mem_of_getElem? (i := 1) rfl)) (hts _ (List.mem_of_getElem? (i := 2) rfl)) (hts _ (List.mem_of_getElem? (i := 3) rfl)) rfl (by rw [hml]; exact hl.1) rfl dX8_init_1 (Nat.le_of_ble_eq_true rfl) (Nat.le_of_ble_eq_true rfl) ?_
  refine W.eq (g2 := F0 m 4 ls []) rfl ?_
  refine lv_aload_n hx hb dX8_init_4 rfl (lv_at hl 0 rfl) ?_
  have hh : Array.size s.heap = ad 1 0 := by omega
  refine k_new (C := RX4) (T := TX4) (N := 7) (ci := 4) (fs := [.null, .null, .int 0, .int 0, .int 0, .int 0, .int 0]) hx hb hts (fun _ h => List.mem_cons_of_mem _ (List.mem_append_left _ (List.mem_append_left _ (List.mem_append_left _ (List.mem_append_left _ (List.mem_append_left _ (List.mem_append_left _ (List.mem_append_left _ (List.mem_append_left _ (List.mem_append_right _ h)))))))))) tyX4 tyX4_ok hown (List.mem_of_getElem? (i := 4) rfl) (List.mem_of_getElem? (i := 5) rfl) (List.mem_of_getElem? (i := 6) rfl) hK gcl4 (fun i hi => by obtain rfl | rfl | rfl | rfl | rfl | rfl | rfl := (by omega : i = 0 ∨ i = 1 ∨ i = 2 ∨ i = 3 ∨ i = 4 ∨ i = 5 ∨ i = 6) <;> rfl) (Nat.le_of_ble_eq_true rfl) (Nat.le_of_ble_eq_true rfl) hh dX8_init_5 (fun H1 e1 z1 o1 => ?_)
  have hS := kS_new hS hh z1 o1
  replace hself := hself.kept (o1 _ (by omega))
  have hnew := e1
  replace hz := z1
  clear z1 o1 e1 hh
  refine lv_dup hx hb dX8_init_8 rfl ?_
  refine va_callv (va_runI (As := []) (rest := [.ref (ad 1 0), .ref (ad 0 0)]) ⟨hx, hb, hml, hown, hts⟩ (iX4 l D E ad hy 0 (by omega)) (cwI 0 hts gX8_init_X4_init rfl rfl rfl (hts _ (List.mem_of_getElem? (i := 6) rfl)) (hts _ (List.mem_of_getElem? (i := 27) rfl)) (hts _ (List.mem_of_getElem? (i := 28) rfl)) rfl (by decide +kernel) ⟨(Nat.le_of_ble_eq_true rfl), (Nat.le_of_ble_eq_true rfl)⟩) ⟨iPre.blind _, fun U hU hW => iPre.at hK hA4 hA6 hz hnew _ U hU hW⟩ rfl rfl hl.1 rfl (lv_room (Nat.le_of_ble_eq_true rfl)) dX8_init_9 ⟨(Nat.le_of_ble_eq_true rfl), (Nat.le_of_ble_eq_true rfl)⟩) hS (fun q _ h => Nat.le_trans (by omega) h) (fun q h => Nat.le_trans (by omega) h) (fun u t H2 locs ht hvm _ hB hz1 hk1 hS => ?_)
  rw [ht] at hB
  obtain ⟨hz2, hB⟩ := hB
  have o1 : ∀ q, q < ad 1 0 → H2[q]? = H1[q]? := fun q hq => hk1 q (by omega) (Nat.not_le.mpr hq)
  replace hself := hself.kept (o1 _ (by omega))
  have s0 : SB D E ad 0 H2 := hB
  replace hz := hz2
  clear hz2 hB o1 hz1 hnew
  refine k_putF (T := TX8) (C := RX8) (N := 8) (ci := 8) hx hb hts (fun _ h => List.mem_cons_of_mem _ (List.mem_append_left _ (List.mem_append_left _ (List.mem_append_left _ (List.mem_append_left _ (List.mem_append_left _ (List.mem_append_left _ (List.mem_append_left _ (List.mem_append_right _ h))))))))) tyX8 tyX8_ok nmX8 hown hK hS (Nat.le_refl _) hself gcl8 0 (by decide) (List.mem_of_getElem? (i := 7) rfl) rfl rfl hin2 rfl rfl rfl (Nat.le_of_ble_eq_true rfl) dX8_init_12 (fun H3 locs e1 z1 o1 hS => ?_)
  replace hz := z1.trans hz
  replace s0 := s0.kept hy (fun q hq _ => o1 q (by omega))
  replace hself := e1
  clear z1 o1 e1
  refine lv_aload_n hx hb dX8_init_15 rfl (lv_at hl 0 rfl) ?_
  have hh : Array.size H3 = ad 1 1 := by omega
  refine k_new (C := RX4) (T := TX4) (N := 7) (ci := 4) (fs := [.null, .null, .int 0, .int 0, .int 0, .int 0, .int 0]) hx hb hts (fun _ h => List.mem_cons_of_mem _ (List.mem_append_left _ (List.mem_append_left _ (List.mem_append_left _ (List.mem_append_left _ (List.mem_append_left _ (List.mem_append_left _ (List.mem_append_left _ (List.mem_append_left _ (List.mem_append_right _ h)))))))))) tyX4 tyX4_ok hown (List.mem_of_getElem? (i := 4) rfl) (List.mem_of_getElem? (i := 5) rfl) (List.mem_of_getElem? (i := 6) rfl) hK gcl4 (fun i hi => by obtain rfl | rfl | rfl | rfl | rfl | rfl | rfl := (by omega : i = 0 ∨ i = 1 ∨ i = 2 ∨ i = 3 ∨ i = 4 ∨ i = 5 ∨ i = 6) <;> rfl) (Nat.le_of_ble_eq_true rfl) (Nat.le_of_ble_eq_true rfl) hh dX8_init_16 (fun H4 e1 z1 o1 => ?_)
  have hS := kS_new hS hh z1 o1
  replace hself := hself.kept (o1 _ (by omega))
  replace s0 := s0.kept hy (fun q _ hq => o1 q (by omega))
  have hnew := e1
  replace hz := z1
  clear z1 o1 e1 hh
  refine lv_dup hx hb dX8_init_19 rfl ?_
  refine va_callv (va_runI (As := []) (rest := [.ref (ad 1 1), .ref (ad 0 0)]) ⟨hx, hb, hml, hown, hts⟩ (iX4 l D E ad hy 1 (by omega)) (cwI 0 hts gX8_init_X4_init rfl rfl rfl (hts _ (List.mem_of_getElem? (i := 6) rfl)) (hts _ (List.mem_of_getElem? (i := 27) rfl)) (hts _ (List.mem_of_getElem? (i := 28) rfl)) rfl (by decide +kernel) ⟨(Nat.le_of_ble_eq_true rfl), (Nat.le_of_ble_eq_true rfl)⟩) ⟨iPre.blind _, fun U hU hW => iPre.at hK hA4 hA6 hz hnew _ U hU hW⟩ rfl rfl hl.1 rfl (lv_room (Nat.le_of_ble_eq_true rfl)) dX8_init_20 ⟨(Nat.le_of_ble_eq_true rfl), (Nat.le_of_ble_eq_true rfl)⟩) hS (fun q _ h => Nat.le_trans (by omega) h) (fun q h => Nat.le_trans (by omega) h) (fun u t H5 locs ht hvm _ hB hz1 hk1 hS => ?_)
  rw [ht] at hB
  obtain ⟨hz2, hB⟩ := hB
  have o1 : ∀ q, q < ad 1 1 → H5[q]? = H4[q]? := fun q hq => hk1 q (by omega) (Nat.not_le.mpr hq)
  replace hself := hself.kept (o1 _ (by omega))
  replace s0 := s0.kept hy (fun q _ hq => o1 q (by omega))
  have s1 : SB D E ad 1 H5 := hB
  replace hz := hz2
  clear hz2 hB o1 hz1 hnew
  refine k_putF (T := TX8) (C := RX8) (N := 8) (ci := 8) hx hb hts (fun _ h => List.mem_cons_of_mem _ (List.mem_append_left _ (List.mem_append_left _ (List.mem_append_left _ (List.mem_append_left _ (List.mem_append_left _ (List.mem_append_left _ (List.mem_append_left _ (List.mem_append_right _ h))))))))) tyX8 tyX8_ok nmX8 hown hK hS (Nat.le_refl _) hself gcl8 1 (by decide) (List.mem_of_getElem? (i := 8) rfl) rfl rfl hin2 rfl rfl rfl (Nat.le_of_ble_eq_true rfl) dX8_init_23 (fun H6 locs e1 z1 o1 hS => ?_)
  replace hz := z1.trans hz
  replace s0 := s0.kept hy (fun q hq _ => o1 q (by omega))
  replace s1 := s1.kept hy (fun q hq _ => o1 q (by omega))
  replace hself := e1
  clear z1 o1 e1
  refine lv_aload_n hx hb dX8_init_26 rfl (lv_at hl 0 rfl) ?_
  have hh : Array.size H6 = ad 1 2 := by omega
  refine k_new (C := RX4) (T := TX4) (N := 7) (ci := 4) (fs := [.null, .null, .int 0, .int 0, .int 0, .int 0, .int 0]) hx hb hts (fun _ h => List.mem_cons_of_mem _ (List.mem_append_left _ (List.mem_append_left _ (List.mem_append_left _ (List.mem_append_left _ (List.mem_append_left _ (List.mem_append_left _ (List.mem_append_left _ (List.mem_append_left _ (List.mem_append_right _ h)))))))))) tyX4 tyX4_ok hown (List.mem_of_getElem? (i := 4) rfl) (List.mem_of_getElem? (i := 5) rfl) (List.mem_of_getElem? (i := 6) rfl) hK gcl4 (fun i hi => by obtain rfl | rfl | rfl | rfl | rfl | rfl | rfl := (by omega : i = 0 ∨ i = 1 ∨ i = 2 ∨ i = 3 ∨ i = 4 ∨ i = 5 ∨ i = 6) <;> rfl) (Nat.le_of_ble_eq_true rfl) (Nat.le_of_ble_eq_true rfl) hh dX8_init_27 (fun H7 e1 z1 o1 => ?_)
  have hS := kS_new hS hh z1 o1
  replace hself := hself.kept (o1 _ (by omega))
  replace s0 := s0.kept hy (fun q _ hq => o1 q (by omega))
  replace s1 := s1.kept hy (fun q _ hq => o1 q (by omega))
  have hnew := e1
  replace hz := z1
  clear z1 o1 e1 hh
  refine lv_dup hx hb dX8_init_30 rfl ?_
  refine va_callv (va_runI (As := []) (rest := [.ref (ad 1 2), .ref (ad 0 0)]) ⟨hx, hb, hml, hown, hts⟩ (iX4 l D E ad hy 2 (by omega)) (cwI 0 hts gX8_init_X4_init rfl rfl rfl (hts _ (List.mem_of_getElem? (i := 6) rfl)) (hts _ (List.mem_of_getElem? (i := 27) rfl)) (hts _ (List.mem_of_getElem? (i := 28) rfl)) rfl (by decide +kernel) ⟨(Nat.le_of_ble_eq_true rfl), (Nat.le_of_ble_eq_true rfl)⟩) ⟨iPre.blind _, fun U hU hW => iPre.at hK hA4 hA6 hz hnew _ U hU hW⟩ rfl rfl hl.1 rfl (lv_room (Nat.le_of_ble_eq_true rfl)) dX8_init_31 ⟨(Nat.le_of_ble_eq_true rfl), (Nat.le_of_ble_eq_true rfl)⟩) hS (fun q _ h => Nat.le_trans (by omega) h) (fun q h => Nat.le_trans (by omega) h) (fun u t H8 locs ht hvm _ hB hz1 hk1 hS => ?_)
  rw [ht] at hB
  obtain ⟨hz2, hB⟩ := hB
  have o1 : ∀ q, q < ad 1 2 → H8[q]? = H7[q]? := fun q hq => hk1 q (by omega) (Nat.not_le.mpr hq)
  replace hself := hself.kept (o1 _ (by omega))
  replace s0 := s0.kept hy (fun q _ hq => o1 q (by omega))
  replace s1 := s1.kept hy (fun q _ hq => o1 q (by omega))
  have s2 : SB D E ad 2 H8 := hB
  replace hz := hz2
  clear hz2 hB o1 hz1 hnew
  refine k_putF (T := TX8) (C := RX8) (N := 8) (ci := 8) hx hb hts (fun _ h => List.mem_cons_of_mem _ (List.mem_append_left _ (List.mem_append_left _ (List.mem_append_left _ (List.mem_append_left _ (List.mem_append_left _ (List.mem_append_left _ (List.mem_append_left _ (List.mem_append_right _ h))))))))) tyX8 tyX8_ok nmX8 hown hK hS (Nat.le_refl _) hself gcl8 2 (by decide) (List.mem_of_getElem? (i := 9) rfl) rfl rfl hin2 rfl rfl rfl (Nat.le_of_ble_eq_true rfl) dX8_init_34 (fun H9 locs e1 z1 o1 hS => ?_)
  replace hz := z1.trans hz
  replace s0 := s0.kept hy (fun q hq _ => o1 q (by omega))
  replace s1 := s1.kept hy (fun q hq _ => o1 q (by omega))
  replace s2 := s2.kept hy (fun q hq _ => o1 q (by omega))
  replace hself := e1
  clear z1 o1 e1
  refine lv_aload_n hx hb dX8_init_37 rfl (lv_at hl 0 rfl) ?_
  have hh : Array.size H9 = ad 10 0 := by omega
  refine k_new (C := RX0) (T := TX0) (N := 2) (ci := 0) (fs := [.null, .int 0]) hx hb hts (fun _ h => List.mem_cons_of_mem _ (List.mem_append_left _ (List.mem_append_left _ (List.mem_append_left _ (List.mem_append_left _ (List.mem_append_left _ (List.mem_append_left _ (List.mem_append_right _ h)))))))) tyX0 tyX0_ok hown (List.mem_of_getElem? (i := 10) rfl) (List.mem_of_getElem? (i := 11) rfl) (List.mem_of_getElem? (i := 12) rfl) hK gcl0 (fun i hi => by obtain rfl | rfl := (by omega : i = 0 ∨ i = 1) <;> rfl) (Nat.le_of_ble_eq_true rfl) (Nat.le_of_ble_eq_true rfl) hh dX8_init_38 (fun H10 e1 z1 o1 => ?_)
  have hS := kS_new hS hh z1 o1
  replace hself := hself.kept (o1 _ (by omega))
  replace s0 := s0.kept hy (fun q _ hq => o1 q (by omega))
  replace s1 := s1.kept hy (fun q _ hq => o1 q (by omega))
  replace s2 := s2.kept hy (fun q _ hq => o1 q (by omega))
  have hnew := e1
  replace hz := z1
  clear z1 o1 e1 hh
  refine lv_dup hx hb dX8_init_41 rfl ?_
  refine va_callv (va_runI (As := []) (rest := [.ref (ad 10 0), .ref (ad 0 0)]) ⟨hx, hb, hml, hown, hts⟩ (iX0 l D E ad hy) (cwI 0 hts gX8_init_X0_init rfl rfl rfl (hts _ (List.mem_of_getElem? (i := 12) rfl)) (hts _ (List.mem_of_getElem? (i := 68) rfl)) (hts _ (List.mem_of_getElem? (i := 69) rfl)) rfl (by decide +kernel) ⟨(Nat.le_of_ble_eq_true rfl), (Nat.le_of_ble_eq_true rfl)⟩) ⟨iPre.blind _, fun U hU hW => iPre.at hK hA4 hA6 hz hnew _ U hU hW⟩ rfl rfl hl.1 rfl (lv_room (Nat.le_of_ble_eq_true rfl)) dX8_init_42 ⟨(Nat.le_of_ble_eq_true rfl), (Nat.le_of_ble_eq_true rfl)⟩) hS (fun q _ h => Nat.le_trans (by omega) h) (fun q h => Nat.le_trans (by omega) h) (fun u t H11 locs ht hvm _ hB hz1 hk1 hS => ?_)
  rw [ht] at hB
  obtain ⟨hz2, hB⟩ := hB
  have o1 : ∀ q, q < ad 10 0 → H11[q]? = H10[q]? := fun q hq => hk1 q (by omega) (Nat.not_le.mpr hq)
  replace hself := hself.kept (o1 _ (by omega))
  replace s0 := s0.kept hy (fun q _ hq => o1 q (by omega))
  replace s1 := s1.kept hy (fun q _ hq => o1 q (by omega))
  replace s2 := s2.kept hy (fun q _ hq => o1 q (by omega))
  have hb0 : HB D E ad H11 := hB
  replace hz := hz2
  clear hz2 hB o1 hz1 hnew
  refine k_putF (T := TX8) (C := RX8) (N := 8) (ci := 8) hx hb hts (fun _ h => List.mem_cons_of_mem _ (List.mem_append_left _ (List.mem_append_left _ (List.mem_append_left _ (List.mem_append_left _ (List.mem_append_left _ (List.mem_append_left _ (List.mem_append_left _ (List.mem_append_right _ h))))))))) tyX8 tyX8_ok nmX8 hown hK hS (Nat.le_refl _) hself gcl8 3 (by decide) (List.mem_of_getElem? (i := 13) rfl) rfl rfl hin2 rfl rfl rfl (Nat.le_of_ble_eq_true rfl) dX8_init_45 (fun H12 locs e1 z1 o1 hS => ?_)
  replace hz := z1.trans hz
  replace s0 := s0.kept hy (fun q hq _ => o1 q (by omega))
  replace s1 := s1.kept hy (fun q hq _ => o1 q (by omega))
  replace s2 := s2.kept hy (fun q hq _ => o1 q (by omega))
  replace hb0 := hb0.kept hy (fun q hq _ => o1 q (by omega))
  replace hself := e1
  clear z1 o1 e1
  refine lv_aload_n hx hb dX8_init_48 rfl (lv_at hl 0 rfl) ?_
  have hh : Array.size H12 = ad 12 0 := by omega
  refine k_new (C := RX5) (T := TX5) (N := 3) (ci := 5) (fs := [.null, .null, .int 0]) hx hb hts (fun _ h => List.mem_cons_of_mem _ (List.mem_append_left _ (List.mem_append_left _ (List.mem_append_left _ (List.mem_append_left _ (List.mem_append_left _ (List.mem_append_right _ h))))))) tyX5 tyX5_ok hown (List.mem_of_getElem? (i := 14) rfl) (List.mem_of_getElem? (i := 15) rfl) (List.mem_of_getElem? (i := 16) rfl) hK gcl5 (fun i hi => by obtain rfl | rfl | rfl := (by omega : i = 0 ∨ i = 1 ∨ i = 2) <;> rfl) (Nat.le_of_ble_eq_true rfl) (Nat.le_of_ble_eq_true rfl) hh dX8_init_49 (fun H13 e1 z1 o1 => ?_)
  have hS := kS_new hS hh z1 o1
  replace hself := hself.kept (o1 _ (by omega))
  replace s0 := s0.kept hy (fun q _ hq => o1 q (by omega))
  replace s1 := s1.kept hy (fun q _ hq => o1 q (by omega))
  replace s2 := s2.kept hy (fun q _ hq => o1 q (by omega))
  replace hb0 := hb0.kept hy (fun q _ hq => o1 q (by omega))
  have hnew := e1
  replace hz := z1
  clear z1 o1 e1 hh
  refine lv_dup hx hb dX8_init_52 rfl ?_
  refine va_callv (va_runI (As := []) (rest := [.ref (ad 12 0), .ref (ad 0 0)]) ⟨hx, hb, hml, hown, hts⟩ (iX5 l D E ad hy) (cwI 0 hts gX8_init_X5_init rfl rfl rfl (hts _ (List.mem_of_getElem? (i := 16) rfl)) (hts _ (List.mem_of_getElem? (i := 76) rfl)) (hts _ (List.mem_of_getElem? (i := 77) rfl)) rfl (by decide +kernel) ⟨(Nat.le_of_ble_eq_true rfl), (Nat.le_of_ble_eq_true rfl)⟩) ⟨iPre.blind _, fun U hU hW => iPre.at hK hA4 hA6 hz hnew _ U hU hW⟩ rfl rfl hl.1 rfl (lv_room (Nat.le_of_ble_eq_true rfl)) dX8_init_53 ⟨(Nat.le_of_ble_eq_true rfl), (Nat.le_of_ble_eq_true rfl)⟩) hS (fun q _ h => Nat.le_trans (by omega) h) (fun q h => Nat.le_trans (by omega) h) (fun u t H14 locs ht hvm _ hB hz1 hk1 hS => ?_)
  rw [ht] at hB
  obtain ⟨hz2, hB⟩ := hB
  have o1 : ∀ q, q < ad 12 0 → H14[q]? = H13[q]? := fun q hq => hk1 q (by omega) (Nat.not_le.mpr hq)
  replace hself := hself.kept (o1 _ (by omega))
  replace s0 := s0.kept hy (fun q _ hq => o1 q (by omega))
  replace s1 := s1.kept hy (fun q _ hq => o1 q (by omega))
  replace s2 := s2.kept hy (fun q _ hq => o1 q (by omega))
  replace hb0 := hb0.kept hy (fun q _ hq => o1 q (by omega))
  have tb : TB D E ad H14 := hB
  replace hz := hz2
  clear hz2 hB o1 hz1 hnew
  refine k_putF (T := TX8) (C := RX8) (N := 8) (ci := 8) hx hb hts (fun _ h => List.mem_cons_of_mem _ (List.mem_append_left _ (List.mem_append_left _ (List.mem_append_left _ (List.mem_append_left _ (List.mem_append_left _ (List.mem_append_left _ (List.mem_append_left _ (List.mem_append_right _ h))))))))) tyX8 tyX8_ok nmX8 hown hK hS (Nat.le_refl _) hself gcl8 4 (by decide) (List.mem_of_getElem? (i := 17) rfl) rfl rfl hin2 rfl rfl rfl (Nat.le_of_ble_eq_true rfl) dX8_init_56 (fun H15 locs e1 z1 o1 hS => ?_)
  replace hz := z1.trans hz
  replace s0 := s0.kept hy (fun q hq _ => o1 q (by omega))
  replace s1 := s1.kept hy (fun q hq _ => o1 q (by omega))
  replace s2 := s2.kept hy (fun q hq _ => o1 q (by omega))
  replace hb0 := hb0.kept hy (fun q hq _ => o1 q (by omega))
  replace tb := tb.kept hy (fun q hq _ => o1 q (by omega))
  replace hself := e1
  clear z1 o1 e1
  refine lv_aload_n hx hb dX8_init_59 rfl (lv_at hl 0 rfl) ?_
  have hh : Array.size H15 = ad 14 0 := by omega
  refine k_new (C := RX3) (T := TX3) (N := 5) (ci := 3) (fs := [.null, .null, .null, .null, .int 0]) hx hb hts (fun _ h => List.mem_cons_of_mem _ (List.mem_append_left _ (List.mem_append_left _ (List.mem_append_left _ (List.mem_append_left _ (List.mem_append_right _ h)))))) tyX3 tyX3_ok hown (List.mem_of_getElem? (i := 18) rfl) (List.mem_of_getElem? (i := 19) rfl) (List.mem_of_getElem? (i := 20) rfl) hK gcl3 (fun i hi => by obtain rfl | rfl | rfl | rfl | rfl := (by omega : i = 0 ∨ i = 1 ∨ i = 2 ∨ i = 3 ∨ i = 4) <;> rfl) (Nat.le_of_ble_eq_true rfl) (Nat.le_of_ble_eq_true rfl) hh dX8_init_60 (fun H16 e1 z1 o1 => ?_)
  have hS := kS_new hS hh z1 o1
  replace hself := hself.kept (o1 _ (by omega))
  replace s0 := s0.kept hy (fun q _ hq => o1 q (by omega))
  replace s1 := s1.kept hy (fun q _ hq => o1 q (by omega))
  replace s2 := s2.kept hy (fun q _ hq => o1 q (by omega))
  replace hb0 := hb0.kept hy (fun q _ hq => o1 q (by omega))
  replace tb := tb.kept hy (fun q _ hq => o1 q (by omega))
  have hnew := e1
  replace hz := z1
  clear z1 o1 e1 hh
  refine lv_dup hx hb dX8_init_63 rfl ?_
  refine va_callv (va_runI (As := []) (rest := [.ref (ad 14 0), .ref (ad 0 0)]) ⟨hx, hb, hml, hown, hts⟩ (iX3 l D E ad hy) (cwI 0 hts gX8_init_X3_init rfl rfl rfl (hts _ (List.mem_of_getElem? (i := 20) rfl)) (hts _ (List.mem_of_getElem? (i := 86) rfl)) (hts _ (List.mem_of_getElem? (i := 87) rfl)) rfl (by decide +kernel) ⟨(Nat.le_of_ble_eq_true rfl), (Nat.le_of_ble_eq_true rfl)⟩) ⟨iPre.blind _, fun U hU hW => iPre.at hK hA4 hA6 hz hnew _ U hU hW⟩ rfl rfl hl.1 rfl (lv_room (Nat.le_of_ble_eq_true rfl)) dX8_init_64 ⟨(Nat.le_of_ble_eq_true rfl), (Nat.le_of_ble_eq_true rfl)⟩) hS (fun q _ h => Nat.le_trans (by omega) h) (fun q h => Nat.le_trans (by omega) h) (fun u t H17 locs ht hvm _ hB hz1 hk1 hS => ?_)
  rw [ht] at hB
  obtain ⟨hz2, hB⟩ := hB
  have o1 : ∀ q, q < ad 14 0 → H17[q]? = H16[q]? := fun q hq => hk1 q (by omega) (Nat.not_le.mpr hq)
  replace hself := hself.kept (o1 _ (by omega))
  replace s0 := s0.kept hy (fun q _ hq => o1 q (by omega))
  replace s1 := s1.kept hy (fun q _ hq => o1 q (by omega))
  replace s2 := s2.kept hy (fun q _ hq => o1 q (by omega))
  replace hb0 := hb0.kept hy (fun q _ hq => o1 q (by omega))
  replace tb := tb.kept hy (fun q _ hq => o1 q (by omega))
  have zb : ZB D E ad H17 := hB
  replace hz := hz2
  clear hz2 hB o1 hz1 hnew
  refine k_putF (T := TX8) (C := RX8) (N := 8) (ci := 8) hx hb hts (fun _ h => List.mem_cons_of_mem _ (List.mem_append_left _ (List.mem_append_left _ (List.mem_append_left _ (List.mem_append_left _ (List.mem_append_left _ (List.mem_append_left _ (List.mem_append_left _ (List.mem_append_right _ h))))))))) tyX8 tyX8_ok nmX8 hown hK hS (Nat.le_refl _) hself gcl8 5 (by decide) (List.mem_of_getElem? (i := 21) rfl) rfl rfl hin2 rfl rfl rfl (Nat.le_of_ble_eq_true rfl) dX8_init_67 (fun H18 locs e1 z1 o1 hS => ?_)
  replace hz := z1.trans hz
  replace s0 := s0.kept hy (fun q hq _ => o1 q (by omega))
  replace s1 := s1.kept hy (fun q hq _ => o1 q (by omega))
  replace s2 := s2.kept hy (fun q hq _ => o1 q (by omega))
  replace hb0 := hb0.kept hy (fun q hq _ => o1 q (by omega))
  replace tb := tb.kept hy (fun q hq _ => o1 q (by omega))
  replace zb := zb.kept hy (fun q hq _ => o1 q (by omega))
  replace hself := e1
  clear z1 o1 e1
  refine lv_aload_n hx hb dX8_init_70 rfl (lv_at hl 0 rfl) ?_
  have hh : Array.size H18 = ad 19 0 := by omega
  refine k_new (C := RX2) (T := TX2) (N := 1) (ci := 2) (fs := [.null]) hx hb hts (fun _ h => List.mem_cons_of_mem _ (List.mem_append_left _ (List.mem_append_left _ (List.mem_append_left _ (List.mem_append_right _ h))))) tyX2 tyX2_ok hown (List.mem_of_getElem? (i := 22) rfl) (List.mem_of_getElem? (i := 23) rfl) (List.mem_of_getElem? (i := 24) rfl) hK gcl2 (fun i hi => by obtain rfl := (by omega : i = 0) <;> rfl) (Nat.le_of_ble_eq_true rfl) (Nat.le_of_ble_eq_true rfl) hh dX8_init_71 (fun H19 e1 z1 o1 => ?_)
  have hS := kS_new hS hh z1 o1
  replace hself := hself.kept (o1 _ (by omega))
  replace s0 := s0.kept hy (fun q _ hq => o1 q (by omega))
  replace s1 := s1.kept hy (fun q _ hq => o1 q (by omega))
  replace s2 := s2.kept hy (fun q _ hq => o1 q (by omega))
  replace hb0 := hb0.kept hy (fun q _ hq => o1 q (by omega))
  replace tb := tb.kept hy (fun q _ hq => o1 q (by omega))
  replace zb := zb.kept hy (fun q _ hq => o1 q (by omega))
  have hnew := e1
  replace hz := z1
  clear z1 o1 e1 hh
  refine lv_dup hx hb dX8_init_74 rfl ?_
  refine va_callv (va_runI (As := []) (rest := [.ref (ad 19 0), .ref (ad 0 0)]) ⟨hx, hb, hml, hown, hts⟩ (iX2 l D E ad hy) (cwI 0 hts gX8_init_X2_init rfl rfl rfl (hts _ (List.mem_of_getElem? (i := 24) rfl)) (hts _ (List.mem_of_getElem? (i := 96) rfl)) (hts _ (List.mem_of_getElem? (i := 97) rfl)) rfl (by decide +kernel) ⟨(Nat.le_of_ble_eq_true rfl), (Nat.le_of_ble_eq_true rfl)⟩) ⟨iPre.blind _, fun U hU hW => iPre.at hK hA4 hA6 hz hnew _ U hU hW⟩ rfl rfl hl.1 rfl (lv_room (Nat.le_of_ble_eq_true rfl)) dX8_init_75 ⟨(Nat.le_of_ble_eq_true rfl), (Nat.le_of_ble_eq_true rfl)⟩) hS (fun q _ h => Nat.le_trans (by omega) h) (fun q h => Nat.le_trans (by omega) h) (fun u t H20 locs ht hvm _ hB hz1 hk1 hS => ?_)
  rw [ht] at hB
  obtain ⟨hz2, hB⟩ := hB
  have o1 : ∀ q, q < ad 19 0 → H20[q]? = H19[q]? := fun q hq => hk1 q (by omega) (Nat.not_le.mpr hq)
  replace hself := hself.kept (o1 _ (by omega))
  replace s0 := s0.kept hy (fun q _ hq => o1 q (by omega))
  replace s1 := s1.kept hy (fun q _ hq => o1 q (by omega))
  replace s2 := s2.kept hy (fun q _ hq => o1 q (by omega))
  replace hb0 := hb0.kept hy (fun q _ hq => o1 q (by omega))
  replace tb := tb.kept hy (fun q _ hq => o1 q (by omega))
  replace zb := zb.kept hy (fun q _ hq => o1 q (by omega))
  have kb : KB D E ad H20 := hB
  replace hz := hz2
  clear hz2 hB o1 hz1 hnew
  refine k_putF (T := TX8) (C := RX8) (N := 8) (ci := 8) hx hb hts (fun _ h => List.mem_cons_of_mem _ (List.mem_append_left _ (List.mem_append_left _ (List.mem_append_left _ (List.mem_append_left _ (List.mem_append_left _ (List.mem_append_left _ (List.mem_append_left _ (List.mem_append_right _ h))))))))) tyX8 tyX8_ok nmX8 hown hK hS (Nat.le_refl _) hself gcl8 6 (by decide) (List.mem_of_getElem? (i := 25) rfl) rfl rfl hin2 rfl rfl rfl (Nat.le_of_ble_eq_true rfl) dX8_init_78 (fun H21 locs e1 z1 o1 hS => ?_)
  replace hz := z1.trans hz
  replace s0 := s0.kept hy (fun q hq _ => o1 q (by omega))
  replace s1 := s1.kept hy (fun q hq _ => o1 q (by omega))
  replace s2 := s2.kept hy (fun q hq _ => o1 q (by omega))
  replace hb0 := hb0.kept hy (fun q hq _ => o1 q (by omega))
  replace tb := tb.kept hy (fun q hq _ => o1 q (by omega))
  replace zb := zb.kept hy (fun q hq _ => o1 q (by omega))
  replace kb := kb.kept hy (fun q hq _ => o1 q (by omega))
  replace hself := e1
  clear z1 o1 e1
  refine lv_aload_n hx hb dX8_init_81 rfl (lv_at hl 0 rfl) ?_
  refine lv_iconst (v := (0 : Int32)) hx hb dX8_init_82 (by decide) ?_
  refine k_put (T := TX8) (C := RX8) (N := 8) (ci := 8) hx hb hts (fun _ h => List.mem_cons_of_mem _ (List.mem_append_left _ (List.mem_append_left _ (List.mem_append_left _ (List.mem_append_left _ (List.mem_append_left _ (List.mem_append_left _ (List.mem_append_left _ (List.mem_append_right _ h))))))))) tyX8 tyX8_ok nmX8 hown hK hS (Nat.le_refl _) hself gcl8 7 (by decide) (List.mem_of_getElem? (i := 26) rfl) rfl rfl rfl rfl (Nat.le_of_ble_eq_true rfl) dX8_init_83 (fun H22 locs e1 z1 o1 hS => ?_)
  replace hz := z1.trans hz
  replace s0 := s0.kept hy (fun q hq _ => o1 q (by omega))
  replace s1 := s1.kept hy (fun q hq _ => o1 q (by omega))
  replace s2 := s2.kept hy (fun q hq _ => o1 q (by omega))
  replace hb0 := hb0.kept hy (fun q hq _ => o1 q (by omega))
  replace tb := tb.kept hy (fun q hq _ => o1 q (by omega))
  replace zb := zb.kept hy (fun q hq _ => o1 q (by omega))
  replace kb := kb.kept hy (fun q hq _ => o1 q (by omega))
  replace hself := e1
  clear z1 o1 e1
  refine W.widen (k := 476) (n := 17730) (Nat.le_of_ble_eq_true rfl) (Nat.le_of_ble_eq_true rfl) ?_
  exact W.vret hx hb hr (fun t ht hW => ⟨⟨(), rfl, trivial, by show Array.size t.heap = _ ∧ _; rw [ht]; exact ⟨by omega, hself, ⟨s0, s1, s2⟩, hb0, tb, zb, kb⟩⟩, hS.F ht⟩) hS.2.2 dX8_init_86
