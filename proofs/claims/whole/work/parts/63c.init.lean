/-! ===== LAYER 3: the reference's constructor (printed by wip/whole/initgen.py) ===== -/
section LYX
variable {a : Nat → Nat} {b i j : Nat}
theorem ly_lt (h : ∀ k, k < 13 → a k = b + 1 + k) (hij : i < j) (hj : j < 13) : a i < a j := by rw [h i (by omega), h j hj]; omega
theorem ly_self (h : ∀ k, k < 13 → a k = b + 1 + k) (hj : j < 13) : b < a j := by rw [h j hj]; omega
theorem ly_ne (h : ∀ k, k < 13 → a k = b + 1 + k) (hj : j < 13) : a j ≠ b := by rw [h j hj]; omega
theorem ly_0 (h : ∀ k, k < 13 → a k = b + 1 + k) : a 0 = b + 1 := h 0 (by omega)
theorem ly_suc (h : ∀ k, k < 13 → a k = b + 1 + k) (hj : j + 1 < 13) : a (j + 1) = a j + 1 := by rw [h j (by omega), h (j + 1) hj]; omega
theorem all13 {P : Nat → Prop} (h1 : P 1) (h2 : P 2) (h3 : P 3) (h4 : P 4) (h5 : P 5) (h6 : P 6) (h7 : P 7) (h8 : P 8) (h9 : P 9) (h10 : P 10) (h11 : P 11) (h12 : P 12) : ∀ k, 0 < k → k < 13 → P k
  | 0, h, _ => absurd h (by omega)
  | 1, _, _ => h1
  | 2, _, _ => h2
  | 3, _, _ => h3
  | 4, _, _ => h4
  | 5, _, _ => h5
  | 6, _, _ => h6
  | 7, _, _ => h7
  | 8, _, _ => h8
  | 9, _, _ => h9
  | 10, _, _ => h10
  | 11, _, _ => h11
  | 12, _, _ => h12
  | n + 13, _, h => absurd h (by omega)
end LYX
abbrev rmX9_init : Room := { frames := 1, cells := 13, slots := 14696, locals := 12 }
set_option maxHeartbeats 4000000 in
set_option maxRecDepth 100000 in
theorem iX9 (l : Launch) (D : va_G) (E : Nat → ClassId) (ad : Nat → Nat → Nat) (hy : LAY ad)  : Met l yX9_init wsX9_init rmX9_init (va_Pc [.ref (ad 21 0)] (iPre D E (ad 21 0) (.inr (9, [.null, .null, .null, .null, .int 0, .null, .int 0, .null, .int 0, .null, .null, .int 0, .null, .null, .int 0, .null, .null, .null, .int 0])))) (iQ (ad 21 0) 14 (YB D E ad)) 13 14696 (fun q => ad 21 0 ≤ q) := by
  refine Met.ofW (cc := cX9_init) (maxL := 1) (ret := none) (by decide) rfl ?_
  intro p e s m args below meth c s₁ B hml hv
  obtain ⟨rfl, hz, hself, hK, hA4, hA6⟩ := hv
  have hx := B.exec
  have hb := B.bytes
  have hr := B.returns
  have hts := atoms_spec (ws := wsX9_init) B.pre
  have hown : s.vm.findClass RX9 = some m.cls := findClass_of_methodNamed B.named
  have hlocks := B.notSynchronized
  have hin2 : meth.name = "<init>" := (name_of_methodNamed B.named B.method).1
  have hy0 := hy.2.2.2.2.2.2.2.2
  have hS : va_S (fun q => ad 21 0 ≤ q) s.heap s.heap [] := va_S.rf
  have hl := lv_entry ([.ref (ad 21 0)]) (n := 1) (Nat.le_of_ble_eq_true rfl)
  rw [lg_entry_eq]
  generalize (lg_sl ([.ref (ad 21 0)]) ++ List.replicate (1 - (lg_sl ([.ref (ad 21 0)])).length) Slot.unset).toArray = ls at hl ⊢
  have hl : lv_has ls 1 [(0, .ref (ad 21 0))] := hl
  refine lv_aload_n hx hb dX9_init_0 rfl (lv_at hl 0 rfl) ?_
  refine W.objInit hx hb hown (hts _ (List.mem_of_getElem? (i := 1) rfl)) (hts _ (List.mem_of_getElem? (i := 2) rfl)) (hts _ (List.mem_of_getElem? (i := 3) rfl)) rfl (by rw [hml]; exact hl.1) rfl dX9_init_1 (Nat.le_of_ble_eq_true rfl) (Nat.le_of_ble_eq_true rfl) ?_
  refine W.eq (g2 := F0 m 4 ls []) rfl ?_
  refine lv_aload_n hx hb dX9_init_4 rfl (lv_at hl 0 rfl) ?_
  refine lv_sipush (v := (1730 : Int32)) hx hb dX9_init_5 (by decide) ?_
  have hh : Array.size s.heap = ad 22 0 := hz.trans (ly_0 hy0).symm
  refine k_newa (atype := .int) (ty := .int) hx hb hts (List.mem_of_getElem? (i := 4) rfl) rfl rfl hK 0 rfl (fun h => h) 1730 (nI_pos (n := 1730) (by omega)) (nI_clamp (n := 1730) (by omega)) (show 1730 * 4 ≤ 536870912 by omega) (show 0 + 1 ≤ 13 by omega) (show 0 + 1730 ≤ 14696 by omega) hh dX9_init_8 (fun H1 e1 z1 o1 => ?_)
  replace hS := kS_new hS hh z1 o1
  replace hself := hself.kept (o1 _ (ly_self hy0 (j := 0) (by decide)))
  have f0 : HC D H1 (ad 22 0) (gC E ad 22 0 z0) := e1
  replace hz := z1
  clear z1 o1 e1 hh
  refine W.widen (k := 1) (n := 1730) (show 0 + 1 ≤ 1 by omega) (show 0 + 1730 ≤ 1730 by omega) ?_
  refine k_putF (T := TX9) (C := RX9) (N := 19) (ci := 9) hx hb hts (fun _ h => List.mem_cons_of_mem _ (List.mem_append_right _ h)) tyX9 tyX9_ok nmX9 hown hK hS (Nat.le_refl _) hself gcl9 0 (by decide) (List.mem_of_getElem? (i := 5) rfl) rfl rfl hin2 rfl rfl rfl (Nat.le_of_ble_eq_true rfl) dX9_init_10 (fun H2 locs e1 z1 o1 hS => ?_)
  replace hz := z1.trans hz
  replace f0 := f0.kept (o1 _ (ly_ne hy0 (j := 0) (by decide)))
  replace hself : HC D H2 (ad 21 0) (.inr (9, [.ref (ad 22 0), .null, .null, .null, .int 0, .null, .int 0, .null, .int 0, .null, .null, .int 0, .null, .null, .int 0, .null, .null, .null, .int 0])) := e1
  clear z1 o1 e1
  refine lv_aload_n hx hb dX9_init_13 rfl (lv_at hl 0 rfl) ?_
  refine lv_sipush (v := (1730 : Int32)) hx hb dX9_init_14 (by decide) ?_
  have hh : Array.size H2 = ad 22 1 := hz.trans (ly_suc hy0 (j := 0) (by decide)).symm
  refine k_newa (atype := .int) (ty := .int) hx hb hts (List.mem_of_getElem? (i := 4) rfl) rfl rfl hK 0 rfl (fun h => h) 1730 (nI_pos (n := 1730) (by omega)) (nI_clamp (n := 1730) (by omega)) (show 1730 * 4 ≤ 536870912 by omega) (show 1 + 1 ≤ 13 by omega) (show 1730 + 1730 ≤ 14696 by omega) hh dX9_init_17 (fun H3 e1 z1 o1 => ?_)
  replace hS := kS_new hS hh z1 o1
  replace hself := hself.kept (o1 _ (ly_self hy0 (j := 1) (by decide)))
  replace f0 := f0.kept (o1 _ (ly_lt hy0 (i := 0) (j := 1) (by decide) (by decide)))
  have f1 : HC D H3 (ad 22 1) (gC E ad 22 1 z0) := e1
  replace hz := z1
  clear z1 o1 e1 hh
  refine W.widen (k := 2) (n := 3460) (show 1 + 1 ≤ 2 by omega) (show 1730 + 1730 ≤ 3460 by omega) ?_
  refine k_putF (T := TX9) (C := RX9) (N := 19) (ci := 9) hx hb hts (fun _ h => List.mem_cons_of_mem _ (List.mem_append_right _ h)) tyX9 tyX9_ok nmX9 hown hK hS (Nat.le_refl _) hself gcl9 1 (by decide) (List.mem_of_getElem? (i := 6) rfl) rfl rfl hin2 rfl rfl rfl (Nat.le_of_ble_eq_true rfl) dX9_init_19 (fun H4 locs e1 z1 o1 hS => ?_)
  replace hz := z1.trans hz
  replace f0 := f0.kept (o1 _ (ly_ne hy0 (j := 0) (by decide)))
  replace f1 := f1.kept (o1 _ (ly_ne hy0 (j := 1) (by decide)))
  replace hself : HC D H4 (ad 21 0) (.inr (9, [.ref (ad 22 0), .ref (ad 22 1), .null, .null, .int 0, .null, .int 0, .null, .int 0, .null, .null, .int 0, .null, .null, .int 0, .null, .null, .null, .int 0])) := e1
  clear z1 o1 e1
  refine lv_aload_n hx hb dX9_init_22 rfl (lv_at hl 0 rfl) ?_
  refine lv_sipush (v := (1730 : Int32)) hx hb dX9_init_23 (by decide) ?_
  have hh : Array.size H4 = ad 22 2 := hz.trans (ly_suc hy0 (j := 1) (by decide)).symm
  refine k_newa (atype := .int) (ty := .int) hx hb hts (List.mem_of_getElem? (i := 4) rfl) rfl rfl hK 0 rfl (fun h => h) 1730 (nI_pos (n := 1730) (by omega)) (nI_clamp (n := 1730) (by omega)) (show 1730 * 4 ≤ 536870912 by omega) (show 2 + 1 ≤ 13 by omega) (show 3460 + 1730 ≤ 14696 by omega) hh dX9_init_26 (fun H5 e1 z1 o1 => ?_)
  replace hS := kS_new hS hh z1 o1
  replace hself := hself.kept (o1 _ (ly_self hy0 (j := 2) (by decide)))
  replace f0 := f0.kept (o1 _ (ly_lt hy0 (i := 0) (j := 2) (by decide) (by decide)))
  replace f1 := f1.kept (o1 _ (ly_lt hy0 (i := 1) (j := 2) (by decide) (by decide)))
  have f2 : HC D H5 (ad 22 2) (gC E ad 22 2 z0) := e1
  replace hz := z1
  clear z1 o1 e1 hh
  refine W.widen (k := 3) (n := 5190) (show 2 + 1 ≤ 3 by omega) (show 3460 + 1730 ≤ 5190 by omega) ?_
  refine k_putF (T := TX9) (C := RX9) (N := 19) (ci := 9) hx hb hts (fun _ h => List.mem_cons_of_mem _ (List.mem_append_right _ h)) tyX9 tyX9_ok nmX9 hown hK hS (Nat.le_refl _) hself gcl9 2 (by decide) (List.mem_of_getElem? (i := 7) rfl) rfl rfl hin2 rfl rfl rfl (Nat.le_of_ble_eq_true rfl) dX9_init_28 (fun H6 locs e1 z1 o1 hS => ?_)
  replace hz := z1.trans hz
  replace f0 := f0.kept (o1 _ (ly_ne hy0 (j := 0) (by decide)))
  replace f1 := f1.kept (o1 _ (ly_ne hy0 (j := 1) (by decide)))
  replace f2 := f2.kept (o1 _ (ly_ne hy0 (j := 2) (by decide)))
  replace hself : HC D H6 (ad 21 0) (.inr (9, [.ref (ad 22 0), .ref (ad 22 1), .ref (ad 22 2), .null, .int 0, .null, .int 0, .null, .int 0, .null, .null, .int 0, .null, .null, .int 0, .null, .null, .null, .int 0])) := e1
  clear z1 o1 e1
  refine lv_aload_n hx hb dX9_init_31 rfl (lv_at hl 0 rfl) ?_
  refine lv_sipush (v := (6920 : Int32)) hx hb dX9_init_32 (by decide) ?_
  have hh : Array.size H6 = ad 22 3 := hz.trans (ly_suc hy0 (j := 2) (by decide)).symm
  refine k_newa (atype := .int) (ty := .int) hx hb hts (List.mem_of_getElem? (i := 4) rfl) rfl rfl hK 0 rfl (fun h => h) 6920 (nI_pos (n := 6920) (by omega)) (nI_clamp (n := 6920) (by omega)) (show 6920 * 4 ≤ 536870912 by omega) (show 3 + 1 ≤ 13 by omega) (show 5190 + 6920 ≤ 14696 by omega) hh dX9_init_35 (fun H7 e1 z1 o1 => ?_)
  replace hS := kS_new hS hh z1 o1
  replace hself := hself.kept (o1 _ (ly_self hy0 (j := 3) (by decide)))
  replace f0 := f0.kept (o1 _ (ly_lt hy0 (i := 0) (j := 3) (by decide) (by decide)))
  replace f1 := f1.kept (o1 _ (ly_lt hy0 (i := 1) (j := 3) (by decide) (by decide)))
  replace f2 := f2.kept (o1 _ (ly_lt hy0 (i := 2) (j := 3) (by decide) (by decide)))
  have f3 : HC D H7 (ad 22 3) (gC E ad 22 3 z0) := e1
  replace hz := z1
  clear z1 o1 e1 hh
  refine W.widen (k := 4) (n := 12110) (show 3 + 1 ≤ 4 by omega) (show 5190 + 6920 ≤ 12110 by omega) ?_
  refine k_putF (T := TX9) (C := RX9) (N := 19) (ci := 9) hx hb hts (fun _ h => List.mem_cons_of_mem _ (List.mem_append_right _ h)) tyX9 tyX9_ok nmX9 hown hK hS (Nat.le_refl _) hself gcl9 3 (by decide) (List.mem_of_getElem? (i := 8) rfl) rfl rfl hin2 rfl rfl rfl (Nat.le_of_ble_eq_true rfl) dX9_init_37 (fun H8 locs e1 z1 o1 hS => ?_)
  replace hz := z1.trans hz
  replace f0 := f0.kept (o1 _ (ly_ne hy0 (j := 0) (by decide)))
  replace f1 := f1.kept (o1 _ (ly_ne hy0 (j := 1) (by decide)))
  replace f2 := f2.kept (o1 _ (ly_ne hy0 (j := 2) (by decide)))
  replace f3 := f3.kept (o1 _ (ly_ne hy0 (j := 3) (by decide)))
  replace hself : HC D H8 (ad 21 0) (.inr (9, [.ref (ad 22 0), .ref (ad 22 1), .ref (ad 22 2), .ref (ad 22 3), .int 0, .null, .int 0, .null, .int 0, .null, .null, .int 0, .null, .null, .int 0, .null, .null, .null, .int 0])) := e1
  clear z1 o1 e1
  refine lv_aload_n hx hb dX9_init_40 rfl (lv_at hl 0 rfl) ?_
  refine lv_sipush (v := (1730 : Int32)) hx hb dX9_init_41 (by decide) ?_
  have hh : Array.size H8 = ad 22 4 := hz.trans (ly_suc hy0 (j := 3) (by decide)).symm
  refine k_newa (atype := .int) (ty := .int) hx hb hts (List.mem_of_getElem? (i := 4) rfl) rfl rfl hK 0 rfl (fun h => h) 1730 (nI_pos (n := 1730) (by omega)) (nI_clamp (n := 1730) (by omega)) (show 1730 * 4 ≤ 536870912 by omega) (show 4 + 1 ≤ 13 by omega) (show 12110 + 1730 ≤ 14696 by omega) hh dX9_init_44 (fun H9 e1 z1 o1 => ?_)
  replace hS := kS_new hS hh z1 o1
  replace hself := hself.kept (o1 _ (ly_self hy0 (j := 4) (by decide)))
  replace f0 := f0.kept (o1 _ (ly_lt hy0 (i := 0) (j := 4) (by decide) (by decide)))
  replace f1 := f1.kept (o1 _ (ly_lt hy0 (i := 1) (j := 4) (by decide) (by decide)))
  replace f2 := f2.kept (o1 _ (ly_lt hy0 (i := 2) (j := 4) (by decide) (by decide)))
  replace f3 := f3.kept (o1 _ (ly_lt hy0 (i := 3) (j := 4) (by decide) (by decide)))
  have f4 : HC D H9 (ad 22 4) (gC E ad 22 4 z0) := e1
  replace hz := z1
  clear z1 o1 e1 hh
  refine W.widen (k := 5) (n := 13840) (show 4 + 1 ≤ 5 by omega) (show 12110 + 1730 ≤ 13840 by omega) ?_
  refine k_putF (T := TX9) (C := RX9) (N := 19) (ci := 9) hx hb hts (fun _ h => List.mem_cons_of_mem _ (List.mem_append_right _ h)) tyX9 tyX9_ok nmX9 hown hK hS (Nat.le_refl _) hself gcl9 5 (by decide) (List.mem_of_getElem? (i := 9) rfl) rfl rfl hin2 rfl rfl rfl (Nat.le_of_ble_eq_true rfl) dX9_init_46 (fun H10 locs e1 z1 o1 hS => ?_)
  replace hz := z1.trans hz
  replace f0 := f0.kept (o1 _ (ly_ne hy0 (j := 0) (by decide)))
  replace f1 := f1.kept (o1 _ (ly_ne hy0 (j := 1) (by decide)))
  replace f2 := f2.kept (o1 _ (ly_ne hy0 (j := 2) (by decide)))
  replace f3 := f3.kept (o1 _ (ly_ne hy0 (j := 3) (by decide)))
  replace f4 := f4.kept (o1 _ (ly_ne hy0 (j := 4) (by decide)))
  replace hself : HC D H10 (ad 21 0) (.inr (9, [.ref (ad 22 0), .ref (ad 22 1), .ref (ad 22 2), .ref (ad 22 3), .int 0, .ref (ad 22 4), .int 0, .null, .int 0, .null, .null, .int 0, .null, .null, .int 0, .null, .null, .null, .int 0])) := e1
  clear z1 o1 e1
  refine lv_aload_n hx hb dX9_init_49 rfl (lv_at hl 0 rfl) ?_
  refine lv_bipush (v := (29 : Int32)) hx hb dX9_init_50 (by decide) ?_
  have hh : Array.size H10 = ad 22 5 := hz.trans (ly_suc hy0 (j := 4) (by decide)).symm
  refine k_newa (atype := .int) (ty := .int) hx hb hts (List.mem_of_getElem? (i := 4) rfl) rfl rfl hK 0 rfl (fun h => h) 29 (nI_pos (n := 29) (by omega)) (nI_clamp (n := 29) (by omega)) (show 29 * 4 ≤ 536870912 by omega) (show 5 + 1 ≤ 13 by omega) (show 13840 + 29 ≤ 14696 by omega) hh dX9_init_52 (fun H11 e1 z1 o1 => ?_)
  replace hS := kS_new hS hh z1 o1
  replace hself := hself.kept (o1 _ (ly_self hy0 (j := 5) (by decide)))
  replace f0 := f0.kept (o1 _ (ly_lt hy0 (i := 0) (j := 5) (by decide) (by decide)))
  replace f1 := f1.kept (o1 _ (ly_lt hy0 (i := 1) (j := 5) (by decide) (by decide)))
  replace f2 := f2.kept (o1 _ (ly_lt hy0 (i := 2) (j := 5) (by decide) (by decide)))
  replace f3 := f3.kept (o1 _ (ly_lt hy0 (i := 3) (j := 5) (by decide) (by decide)))
  replace f4 := f4.kept (o1 _ (ly_lt hy0 (i := 4) (j := 5) (by decide) (by decide)))
  have f5 : HC D H11 (ad 22 5) (gC E ad 22 5 z0) := e1
  replace hz := z1
  clear z1 o1 e1 hh
  refine W.widen (k := 6) (n := 13869) (show 5 + 1 ≤ 6 by omega) (show 13840 + 29 ≤ 13869 by omega) ?_
  refine k_putF (T := TX9) (C := RX9) (N := 19) (ci := 9) hx hb hts (fun _ h => List.mem_cons_of_mem _ (List.mem_append_right _ h)) tyX9 tyX9_ok nmX9 hown hK hS (Nat.le_refl _) hself gcl9 7 (by decide) (List.mem_of_getElem? (i := 10) rfl) rfl rfl hin2 rfl rfl rfl (Nat.le_of_ble_eq_true rfl) dX9_init_54 (fun H12 locs e1 z1 o1 hS => ?_)
  replace hz := z1.trans hz
  replace f0 := f0.kept (o1 _ (ly_ne hy0 (j := 0) (by decide)))
  replace f1 := f1.kept (o1 _ (ly_ne hy0 (j := 1) (by decide)))
  replace f2 := f2.kept (o1 _ (ly_ne hy0 (j := 2) (by decide)))
  replace f3 := f3.kept (o1 _ (ly_ne hy0 (j := 3) (by decide)))
  replace f4 := f4.kept (o1 _ (ly_ne hy0 (j := 4) (by decide)))
  replace f5 := f5.kept (o1 _ (ly_ne hy0 (j := 5) (by decide)))
  replace hself : HC D H12 (ad 21 0) (.inr (9, [.ref (ad 22 0), .ref (ad 22 1), .ref (ad 22 2), .ref (ad 22 3), .int 0, .ref (ad 22 4), .int 0, .ref (ad 22 5), .int 0, .null, .null, .int 0, .null, .null, .int 0, .null, .null, .null, .int 0])) := e1
  clear z1 o1 e1
  refine lv_aload_n hx hb dX9_init_57 rfl (lv_at hl 0 rfl) ?_
  refine lv_bipush (v := (10 : Int32)) hx hb dX9_init_58 (by decide) ?_
  have hh : Array.size H12 = ad 22 6 := hz.trans (ly_suc hy0 (j := 5) (by decide)).symm
  refine k_newa (atype := .int) (ty := .int) hx hb hts (List.mem_of_getElem? (i := 4) rfl) rfl rfl hK 0 rfl (fun h => h) 10 (nI_pos (n := 10) (by omega)) (nI_clamp (n := 10) (by omega)) (show 10 * 4 ≤ 536870912 by omega) (show 6 + 1 ≤ 13 by omega) (show 13869 + 10 ≤ 14696 by omega) hh dX9_init_60 (fun H13 e1 z1 o1 => ?_)
  replace hS := kS_new hS hh z1 o1
  replace hself := hself.kept (o1 _ (ly_self hy0 (j := 6) (by decide)))
  replace f0 := f0.kept (o1 _ (ly_lt hy0 (i := 0) (j := 6) (by decide) (by decide)))
  replace f1 := f1.kept (o1 _ (ly_lt hy0 (i := 1) (j := 6) (by decide) (by decide)))
  replace f2 := f2.kept (o1 _ (ly_lt hy0 (i := 2) (j := 6) (by decide) (by decide)))
  replace f3 := f3.kept (o1 _ (ly_lt hy0 (i := 3) (j := 6) (by decide) (by decide)))
  replace f4 := f4.kept (o1 _ (ly_lt hy0 (i := 4) (j := 6) (by decide) (by decide)))
  replace f5 := f5.kept (o1 _ (ly_lt hy0 (i := 5) (j := 6) (by decide) (by decide)))
  have f6 : HC D H13 (ad 22 6) (gC E ad 22 6 z0) := e1
  replace hz := z1
  clear z1 o1 e1 hh
  refine W.widen (k := 7) (n := 13879) (show 6 + 1 ≤ 7 by omega) (show 13869 + 10 ≤ 13879 by omega) ?_
  refine k_putF (T := TX9) (C := RX9) (N := 19) (ci := 9) hx hb hts (fun _ h => List.mem_cons_of_mem _ (List.mem_append_right _ h)) tyX9 tyX9_ok nmX9 hown hK hS (Nat.le_refl _) hself gcl9 9 (by decide) (List.mem_of_getElem? (i := 11) rfl) rfl rfl hin2 rfl rfl rfl (Nat.le_of_ble_eq_true rfl) dX9_init_62 (fun H14 locs e1 z1 o1 hS => ?_)
  replace hz := z1.trans hz
  replace f0 := f0.kept (o1 _ (ly_ne hy0 (j := 0) (by decide)))
  replace f1 := f1.kept (o1 _ (ly_ne hy0 (j := 1) (by decide)))
  replace f2 := f2.kept (o1 _ (ly_ne hy0 (j := 2) (by decide)))
  replace f3 := f3.kept (o1 _ (ly_ne hy0 (j := 3) (by decide)))
  replace f4 := f4.kept (o1 _ (ly_ne hy0 (j := 4) (by decide)))
  replace f5 := f5.kept (o1 _ (ly_ne hy0 (j := 5) (by decide)))
  replace f6 := f6.kept (o1 _ (ly_ne hy0 (j := 6) (by decide)))
  replace hself : HC D H14 (ad 21 0) (.inr (9, [.ref (ad 22 0), .ref (ad 22 1), .ref (ad 22 2), .ref (ad 22 3), .int 0, .ref (ad 22 4), .int 0, .ref (ad 22 5), .int 0, .ref (ad 22 6), .null, .int 0, .null, .null, .int 0, .null, .null, .null, .int 0])) := e1
  clear z1 o1 e1
  refine lv_aload_n hx hb dX9_init_65 rfl (lv_at hl 0 rfl) ?_
  refine lv_bipush (v := (10 : Int32)) hx hb dX9_init_66 (by decide) ?_
  have hh : Array.size H14 = ad 22 7 := hz.trans (ly_suc hy0 (j := 6) (by decide)).symm
  refine k_newa (atype := .int) (ty := .int) hx hb hts (List.mem_of_getElem? (i := 4) rfl) rfl rfl hK 0 rfl (fun h => h) 10 (nI_pos (n := 10) (by omega)) (nI_clamp (n := 10) (by omega)) (show 10 * 4 ≤ 536870912 by omega) (show 7 + 1 ≤ 13 by omega) (show 13879 + 10 ≤ 14696 by omega) hh dX9_init_68 (fun H15 e1 z1 o1 => ?_)
  replace hS := kS_new hS hh z1 o1
  replace hself := hself.kept (o1 _ (ly_self hy0 (j := 7) (by decide)))
  replace f0 := f0.kept (o1 _ (ly_lt hy0 (i := 0) (j := 7) (by decide) (by decide)))
  replace f1 := f1.kept (o1 _ (ly_lt hy0 (i := 1) (j := 7) (by decide) (by decide)))
  replace f2 := f2.kept (o1 _ (ly_lt hy0 (i := 2) (j := 7) (by decide) (by decide)))
  replace f3 := f3.kept (o1 _ (ly_lt hy0 (i := 3) (j := 7) (by decide) (by decide)))
  replace f4 := f4.kept (o1 _ (ly_lt hy0 (i := 4) (j := 7) (by decide) (by decide)))
  replace f5 := f5.kept (o1 _ (ly_lt hy0 (i := 5) (j := 7) (by decide) (by decide)))
  replace f6 := f6.kept (o1 _ (ly_lt hy0 (i := 6) (j := 7) (by decide) (by decide)))
  have f7 : HC D H15 (ad 22 7) (gC E ad 22 7 z0) := e1
  replace hz := z1
  clear z1 o1 e1 hh
  refine W.widen (k := 8) (n := 13889) (show 7 + 1 ≤ 8 by omega) (show 13879 + 10 ≤ 13889 by omega) ?_
  refine k_putF (T := TX9) (C := RX9) (N := 19) (ci := 9) hx hb hts (fun _ h => List.mem_cons_of_mem _ (List.mem_append_right _ h)) tyX9 tyX9_ok nmX9 hown hK hS (Nat.le_refl _) hself gcl9 10 (by decide) (List.mem_of_getElem? (i := 12) rfl) rfl rfl hin2 rfl rfl rfl (Nat.le_of_ble_eq_true rfl) dX9_init_70 (fun H16 locs e1 z1 o1 hS => ?_)
  replace hz := z1.trans hz
  replace f0 := f0.kept (o1 _ (ly_ne hy0 (j := 0) (by decide)))
  replace f1 := f1.kept (o1 _ (ly_ne hy0 (j := 1) (by decide)))
  replace f2 := f2.kept (o1 _ (ly_ne hy0 (j := 2) (by decide)))
  replace f3 := f3.kept (o1 _ (ly_ne hy0 (j := 3) (by decide)))
  replace f4 := f4.kept (o1 _ (ly_ne hy0 (j := 4) (by decide)))
  replace f5 := f5.kept (o1 _ (ly_ne hy0 (j := 5) (by decide)))
  replace f6 := f6.kept (o1 _ (ly_ne hy0 (j := 6) (by decide)))
  replace f7 := f7.kept (o1 _ (ly_ne hy0 (j := 7) (by decide)))
  replace hself : HC D H16 (ad 21 0) (.inr (9, [.ref (ad 22 0), .ref (ad 22 1), .ref (ad 22 2), .ref (ad 22 3), .int 0, .ref (ad 22 4), .int 0, .ref (ad 22 5), .int 0, .ref (ad 22 6), .ref (ad 22 7), .int 0, .null, .null, .int 0, .null, .null, .null, .int 0])) := e1
  clear z1 o1 e1
  refine lv_aload_n hx hb dX9_init_73 rfl (lv_at hl 0 rfl) ?_
  refine lv_sipush (v := (702 : Int32)) hx hb dX9_init_74 (by decide) ?_
  have hh : Array.size H16 = ad 22 8 := hz.trans (ly_suc hy0 (j := 7) (by decide)).symm
  refine k_newa (atype := .int) (ty := .int) hx hb hts (List.mem_of_getElem? (i := 4) rfl) rfl rfl hK 0 rfl (fun h => h) 702 (nI_pos (n := 702) (by omega)) (nI_clamp (n := 702) (by omega)) (show 702 * 4 ≤ 536870912 by omega) (show 8 + 1 ≤ 13 by omega) (show 13889 + 702 ≤ 14696 by omega) hh dX9_init_77 (fun H17 e1 z1 o1 => ?_)
  replace hS := kS_new hS hh z1 o1
  replace hself := hself.kept (o1 _ (ly_self hy0 (j := 8) (by decide)))
  replace f0 := f0.kept (o1 _ (ly_lt hy0 (i := 0) (j := 8) (by decide) (by decide)))
  replace f1 := f1.kept (o1 _ (ly_lt hy0 (i := 1) (j := 8) (by decide) (by decide)))
  replace f2 := f2.kept (o1 _ (ly_lt hy0 (i := 2) (j := 8) (by decide) (by decide)))
  replace f3 := f3.kept (o1 _ (ly_lt hy0 (i := 3) (j := 8) (by decide) (by decide)))
  replace f4 := f4.kept (o1 _ (ly_lt hy0 (i := 4) (j := 8) (by decide) (by decide)))
  replace f5 := f5.kept (o1 _ (ly_lt hy0 (i := 5) (j := 8) (by decide) (by decide)))
  replace f6 := f6.kept (o1 _ (ly_lt hy0 (i := 6) (j := 8) (by decide) (by decide)))
  replace f7 := f7.kept (o1 _ (ly_lt hy0 (i := 7) (j := 8) (by decide) (by decide)))
  have f8 : HC D H17 (ad 22 8) (gC E ad 22 8 z0) := e1
  replace hz := z1
  clear z1 o1 e1 hh
  refine W.widen (k := 9) (n := 14591) (show 8 + 1 ≤ 9 by omega) (show 13889 + 702 ≤ 14591 by omega) ?_
  refine k_putF (T := TX9) (C := RX9) (N := 19) (ci := 9) hx hb hts (fun _ h => List.mem_cons_of_mem _ (List.mem_append_right _ h)) tyX9 tyX9_ok nmX9 hown hK hS (Nat.le_refl _) hself gcl9 12 (by decide) (List.mem_of_getElem? (i := 13) rfl) rfl rfl hin2 rfl rfl rfl (Nat.le_of_ble_eq_true rfl) dX9_init_79 (fun H18 locs e1 z1 o1 hS => ?_)
  replace hz := z1.trans hz
  replace f0 := f0.kept (o1 _ (ly_ne hy0 (j := 0) (by decide)))
  replace f1 := f1.kept (o1 _ (ly_ne hy0 (j := 1) (by decide)))
  replace f2 := f2.kept (o1 _ (ly_ne hy0 (j := 2) (by decide)))
  replace f3 := f3.kept (o1 _ (ly_ne hy0 (j := 3) (by decide)))
  replace f4 := f4.kept (o1 _ (ly_ne hy0 (j := 4) (by decide)))
  replace f5 := f5.kept (o1 _ (ly_ne hy0 (j := 5) (by decide)))
  replace f6 := f6.kept (o1 _ (ly_ne hy0 (j := 6) (by decide)))
  replace f7 := f7.kept (o1 _ (ly_ne hy0 (j := 7) (by decide)))
  replace f8 := f8.kept (o1 _ (ly_ne hy0 (j := 8) (by decide)))
  replace hself : HC D H18 (ad 21 0) (.inr (9, [.ref (ad 22 0), .ref (ad 22 1), .ref (ad 22 2), .ref (ad 22 3), .int 0, .ref (ad 22 4), .int 0, .ref (ad 22 5), .int 0, .ref (ad 22 6), .ref (ad 22 7), .int 0, .ref (ad 22 8), .null, .int 0, .null, .null, .null, .int 0])) := e1
  clear z1 o1 e1
  refine lv_aload_n hx hb dX9_init_82 rfl (lv_at hl 0 rfl) ?_
  refine lv_bipush (v := (60 : Int32)) hx hb dX9_init_83 (by decide) ?_
  have hh : Array.size H18 = ad 22 9 := hz.trans (ly_suc hy0 (j := 8) (by decide)).symm
  refine k_newa (atype := .int) (ty := .int) hx hb hts (List.mem_of_getElem? (i := 4) rfl) rfl rfl hK 0 rfl (fun h => h) 60 (nI_pos (n := 60) (by omega)) (nI_clamp (n := 60) (by omega)) (show 60 * 4 ≤ 536870912 by omega) (show 9 + 1 ≤ 13 by omega) (show 14591 + 60 ≤ 14696 by omega) hh dX9_init_85 (fun H19 e1 z1 o1 => ?_)
  replace hS := kS_new hS hh z1 o1
  replace hself := hself.kept (o1 _ (ly_self hy0 (j := 9) (by decide)))
  replace f0 := f0.kept (o1 _ (ly_lt hy0 (i := 0) (j := 9) (by decide) (by decide)))
  replace f1 := f1.kept (o1 _ (ly_lt hy0 (i := 1) (j := 9) (by decide) (by decide)))
  replace f2 := f2.kept (o1 _ (ly_lt hy0 (i := 2) (j := 9) (by decide) (by decide)))
  replace f3 := f3.kept (o1 _ (ly_lt hy0 (i := 3) (j := 9) (by decide) (by decide)))
  replace f4 := f4.kept (o1 _ (ly_lt hy0 (i := 4) (j := 9) (by decide) (by decide)))
  replace f5 := f5.kept (o1 _ (ly_lt hy0 (i := 5) (j := 9) (by decide) (by decide)))
  replace f6 := f6.kept (o1 _ (ly_lt hy0 (i := 6) (j := 9) (by decide) (by decide)))
  replace f7 := f7.kept (o1 _ (ly_lt hy0 (i := 7) (j := 9) (by decide) (by decide)))
  replace f8 := f8.kept (o1 _ (ly_lt hy0 (i := 8) (j := 9) (by decide) (by decide)))
  have f9 : HC D H19 (ad 22 9) (gC E ad 22 9 z0) := e1
  replace hz := z1
  clear z1 o1 e1 hh
  refine W.widen (k := 10) (n := 14651) (show 9 + 1 ≤ 10 by omega) (show 14591 + 60 ≤ 14651 by omega) ?_
  refine k_putF (T := TX9) (C := RX9) (N := 19) (ci := 9) hx hb hts (fun _ h => List.mem_cons_of_mem _ (List.mem_append_right _ h)) tyX9 tyX9_ok nmX9 hown hK hS (Nat.le_refl _) hself gcl9 13 (by decide) (List.mem_of_getElem? (i := 14) rfl) rfl rfl hin2 rfl rfl rfl (Nat.le_of_ble_eq_true rfl) dX9_init_87 (fun H20 locs e1 z1 o1 hS => ?_)
  replace hz := z1.trans hz
  replace f0 := f0.kept (o1 _ (ly_ne hy0 (j := 0) (by decide)))
  replace f1 := f1.kept (o1 _ (ly_ne hy0 (j := 1) (by decide)))
  replace f2 := f2.kept (o1 _ (ly_ne hy0 (j := 2) (by decide)))
  replace f3 := f3.kept (o1 _ (ly_ne hy0 (j := 3) (by decide)))
  replace f4 := f4.kept (o1 _ (ly_ne hy0 (j := 4) (by decide)))
  replace f5 := f5.kept (o1 _ (ly_ne hy0 (j := 5) (by decide)))
  replace f6 := f6.kept (o1 _ (ly_ne hy0 (j := 6) (by decide)))
  replace f7 := f7.kept (o1 _ (ly_ne hy0 (j := 7) (by decide)))
  replace f8 := f8.kept (o1 _ (ly_ne hy0 (j := 8) (by decide)))
  replace f9 := f9.kept (o1 _ (ly_ne hy0 (j := 9) (by decide)))
  replace hself : HC D H20 (ad 21 0) (.inr (9, [.ref (ad 22 0), .ref (ad 22 1), .ref (ad 22 2), .ref (ad 22 3), .int 0, .ref (ad 22 4), .int 0, .ref (ad 22 5), .int 0, .ref (ad 22 6), .ref (ad 22 7), .int 0, .ref (ad 22 8), .ref (ad 22 9), .int 0, .null, .null, .null, .int 0])) := e1
  clear z1 o1 e1
  refine lv_aload_n hx hb dX9_init_90 rfl (lv_at hl 0 rfl) ?_
  refine lv_bipush (v := (15 : Int32)) hx hb dX9_init_91 (by decide) ?_
  have hh : Array.size H20 = ad 22 10 := hz.trans (ly_suc hy0 (j := 9) (by decide)).symm
  refine k_newa (atype := .int) (ty := .int) hx hb hts (List.mem_of_getElem? (i := 4) rfl) rfl rfl hK 0 rfl (fun h => h) 15 (nI_pos (n := 15) (by omega)) (nI_clamp (n := 15) (by omega)) (show 15 * 4 ≤ 536870912 by omega) (show 10 + 1 ≤ 13 by omega) (show 14651 + 15 ≤ 14696 by omega) hh dX9_init_93 (fun H21 e1 z1 o1 => ?_)
  replace hS := kS_new hS hh z1 o1
  replace hself := hself.kept (o1 _ (ly_self hy0 (j := 10) (by decide)))
  replace f0 := f0.kept (o1 _ (ly_lt hy0 (i := 0) (j := 10) (by decide) (by decide)))
  replace f1 := f1.kept (o1 _ (ly_lt hy0 (i := 1) (j := 10) (by decide) (by decide)))
  replace f2 := f2.kept (o1 _ (ly_lt hy0 (i := 2) (j := 10) (by decide) (by decide)))
  replace f3 := f3.kept (o1 _ (ly_lt hy0 (i := 3) (j := 10) (by decide) (by decide)))
  replace f4 := f4.kept (o1 _ (ly_lt hy0 (i := 4) (j := 10) (by decide) (by decide)))
  replace f5 := f5.kept (o1 _ (ly_lt hy0 (i := 5) (j := 10) (by decide) (by decide)))
  replace f6 := f6.kept (o1 _ (ly_lt hy0 (i := 6) (j := 10) (by decide) (by decide)))
  replace f7 := f7.kept (o1 _ (ly_lt hy0 (i := 7) (j := 10) (by decide) (by decide)))
  replace f8 := f8.kept (o1 _ (ly_lt hy0 (i := 8) (j := 10) (by decide) (by decide)))
  replace f9 := f9.kept (o1 _ (ly_lt hy0 (i := 9) (j := 10) (by decide) (by decide)))
  have f10 : HC D H21 (ad 22 10) (gC E ad 22 10 z0) := e1
  replace hz := z1
  clear z1 o1 e1 hh
  refine W.widen (k := 11) (n := 14666) (show 10 + 1 ≤ 11 by omega) (show 14651 + 15 ≤ 14666 by omega) ?_
  refine k_putF (T := TX9) (C := RX9) (N := 19) (ci := 9) hx hb hts (fun _ h => List.mem_cons_of_mem _ (List.mem_append_right _ h)) tyX9 tyX9_ok nmX9 hown hK hS (Nat.le_refl _) hself gcl9 15 (by decide) (List.mem_of_getElem? (i := 15) rfl) rfl rfl hin2 rfl rfl rfl (Nat.le_of_ble_eq_true rfl) dX9_init_95 (fun H22 locs e1 z1 o1 hS => ?_)
  replace hz := z1.trans hz
  replace f0 := f0.kept (o1 _ (ly_ne hy0 (j := 0) (by decide)))
  replace f1 := f1.kept (o1 _ (ly_ne hy0 (j := 1) (by decide)))
  replace f2 := f2.kept (o1 _ (ly_ne hy0 (j := 2) (by decide)))
  replace f3 := f3.kept (o1 _ (ly_ne hy0 (j := 3) (by decide)))
  replace f4 := f4.kept (o1 _ (ly_ne hy0 (j := 4) (by decide)))
  replace f5 := f5.kept (o1 _ (ly_ne hy0 (j := 5) (by decide)))
  replace f6 := f6.kept (o1 _ (ly_ne hy0 (j := 6) (by decide)))
  replace f7 := f7.kept (o1 _ (ly_ne hy0 (j := 7) (by decide)))
  replace f8 := f8.kept (o1 _ (ly_ne hy0 (j := 8) (by decide)))
  replace f9 := f9.kept (o1 _ (ly_ne hy0 (j := 9) (by decide)))
  replace f10 := f10.kept (o1 _ (ly_ne hy0 (j := 10) (by decide)))
  replace hself : HC D H22 (ad 21 0) (.inr (9, [.ref (ad 22 0), .ref (ad 22 1), .ref (ad 22 2), .ref (ad 22 3), .int 0, .ref (ad 22 4), .int 0, .ref (ad 22 5), .int 0, .ref (ad 22 6), .ref (ad 22 7), .int 0, .ref (ad 22 8), .ref (ad 22 9), .int 0, .ref (ad 22 10), .null, .null, .int 0])) := e1
  clear z1 o1 e1
  refine lv_aload_n hx hb dX9_init_98 rfl (lv_at hl 0 rfl) ?_
  refine lv_bipush (v := (15 : Int32)) hx hb dX9_init_99 (by decide) ?_
  have hh : Array.size H22 = ad 22 11 := hz.trans (ly_suc hy0 (j := 10) (by decide)).symm
  refine k_newa (atype := .int) (ty := .int) hx hb hts (List.mem_of_getElem? (i := 4) rfl) rfl rfl hK 0 rfl (fun h => h) 15 (nI_pos (n := 15) (by omega)) (nI_clamp (n := 15) (by omega)) (show 15 * 4 ≤ 536870912 by omega) (show 11 + 1 ≤ 13 by omega) (show 14666 + 15 ≤ 14696 by omega) hh dX9_init_101 (fun H23 e1 z1 o1 => ?_)
  replace hS := kS_new hS hh z1 o1
  replace hself := hself.kept (o1 _ (ly_self hy0 (j := 11) (by decide)))
  replace f0 := f0.kept (o1 _ (ly_lt hy0 (i := 0) (j := 11) (by decide) (by decide)))
  replace f1 := f1.kept (o1 _ (ly_lt hy0 (i := 1) (j := 11) (by decide) (by decide)))
  replace f2 := f2.kept (o1 _ (ly_lt hy0 (i := 2) (j := 11) (by decide) (by decide)))
  replace f3 := f3.kept (o1 _ (ly_lt hy0 (i := 3) (j := 11) (by decide) (by decide)))
  replace f4 := f4.kept (o1 _ (ly_lt hy0 (i := 4) (j := 11) (by decide) (by decide)))
  replace f5 := f5.kept (o1 _ (ly_lt hy0 (i := 5) (j := 11) (by decide) (by decide)))
  replace f6 := f6.kept (o1 _ (ly_lt hy0 (i := 6) (j := 11) (by decide) (by decide)))
  replace f7 := f7.kept (o1 _ (ly_lt hy0 (i := 7) (j := 11) (by decide) (by decide)))
  replace f8 := f8.kept (o1 _ (ly_lt hy0 (i := 8) (j := 11) (by decide) (by decide)))
  replace f9 := f9.kept (o1 _ (ly_lt hy0 (i := 9) (j := 11) (by decide) (by decide)))
  replace f10 := f10.kept (o1 _ (ly_lt hy0 (i := 10) (j := 11) (by decide) (by decide)))
  have f11 : HC D H23 (ad 22 11) (gC E ad 22 11 z0) := e1
  replace hz := z1
  clear z1 o1 e1 hh
  refine W.widen (k := 12) (n := 14681) (show 11 + 1 ≤ 12 by omega) (show 14666 + 15 ≤ 14681 by omega) ?_
  refine k_putF (T := TX9) (C := RX9) (N := 19) (ci := 9) hx hb hts (fun _ h => List.mem_cons_of_mem _ (List.mem_append_right _ h)) tyX9 tyX9_ok nmX9 hown hK hS (Nat.le_refl _) hself gcl9 16 (by decide) (List.mem_of_getElem? (i := 16) rfl) rfl rfl hin2 rfl rfl rfl (Nat.le_of_ble_eq_true rfl) dX9_init_103 (fun H24 locs e1 z1 o1 hS => ?_)
  replace hz := z1.trans hz
  replace f0 := f0.kept (o1 _ (ly_ne hy0 (j := 0) (by decide)))
  replace f1 := f1.kept (o1 _ (ly_ne hy0 (j := 1) (by decide)))
  replace f2 := f2.kept (o1 _ (ly_ne hy0 (j := 2) (by decide)))
  replace f3 := f3.kept (o1 _ (ly_ne hy0 (j := 3) (by decide)))
  replace f4 := f4.kept (o1 _ (ly_ne hy0 (j := 4) (by decide)))
  replace f5 := f5.kept (o1 _ (ly_ne hy0 (j := 5) (by decide)))
  replace f6 := f6.kept (o1 _ (ly_ne hy0 (j := 6) (by decide)))
  replace f7 := f7.kept (o1 _ (ly_ne hy0 (j := 7) (by decide)))
  replace f8 := f8.kept (o1 _ (ly_ne hy0 (j := 8) (by decide)))
  replace f9 := f9.kept (o1 _ (ly_ne hy0 (j := 9) (by decide)))
  replace f10 := f10.kept (o1 _ (ly_ne hy0 (j := 10) (by decide)))
  replace f11 := f11.kept (o1 _ (ly_ne hy0 (j := 11) (by decide)))
  replace hself : HC D H24 (ad 21 0) (.inr (9, [.ref (ad 22 0), .ref (ad 22 1), .ref (ad 22 2), .ref (ad 22 3), .int 0, .ref (ad 22 4), .int 0, .ref (ad 22 5), .int 0, .ref (ad 22 6), .ref (ad 22 7), .int 0, .ref (ad 22 8), .ref (ad 22 9), .int 0, .ref (ad 22 10), .ref (ad 22 11), .null, .int 0])) := e1
  clear z1 o1 e1
  refine lv_aload_n hx hb dX9_init_106 rfl (lv_at hl 0 rfl) ?_
  refine lv_bipush (v := (15 : Int32)) hx hb dX9_init_107 (by decide) ?_
  have hh : Array.size H24 = ad 22 12 := hz.trans (ly_suc hy0 (j := 11) (by decide)).symm
  refine k_newa (atype := .int) (ty := .int) hx hb hts (List.mem_of_getElem? (i := 4) rfl) rfl rfl hK 0 rfl (fun h => h) 15 (nI_pos (n := 15) (by omega)) (nI_clamp (n := 15) (by omega)) (show 15 * 4 ≤ 536870912 by omega) (show 12 + 1 ≤ 13 by omega) (show 14681 + 15 ≤ 14696 by omega) hh dX9_init_109 (fun H25 e1 z1 o1 => ?_)
  replace hS := kS_new hS hh z1 o1
  replace hself := hself.kept (o1 _ (ly_self hy0 (j := 12) (by decide)))
  replace f0 := f0.kept (o1 _ (ly_lt hy0 (i := 0) (j := 12) (by decide) (by decide)))
  replace f1 := f1.kept (o1 _ (ly_lt hy0 (i := 1) (j := 12) (by decide) (by decide)))
  replace f2 := f2.kept (o1 _ (ly_lt hy0 (i := 2) (j := 12) (by decide) (by decide)))
  replace f3 := f3.kept (o1 _ (ly_lt hy0 (i := 3) (j := 12) (by decide) (by decide)))
  replace f4 := f4.kept (o1 _ (ly_lt hy0 (i := 4) (j := 12) (by decide) (by decide)))
  replace f5 := f5.kept (o1 _ (ly_lt hy0 (i := 5) (j := 12) (by decide) (by decide)))
  replace f6 := f6.kept (o1 _ (ly_lt hy0 (i := 6) (j := 12) (by decide) (by decide)))
  replace f7 := f7.kept (o1 _ (ly_lt hy0 (i := 7) (j := 12) (by decide) (by decide)))
  replace f8 := f8.kept (o1 _ (ly_lt hy0 (i := 8) (j := 12) (by decide) (by decide)))
  replace f9 := f9.kept (o1 _ (ly_lt hy0 (i := 9) (j := 12) (by decide) (by decide)))
  replace f10 := f10.kept (o1 _ (ly_lt hy0 (i := 10) (j := 12) (by decide) (by decide)))
  replace f11 := f11.kept (o1 _ (ly_lt hy0 (i := 11) (j := 12) (by decide) (by decide)))
  have f12 : HC D H25 (ad 22 12) (gC E ad 22 12 z0) := e1
  replace hz := z1
  clear z1 o1 e1 hh
  refine W.widen (k := 13) (n := 14696) (show 12 + 1 ≤ 13 by omega) (show 14681 + 15 ≤ 14696 by omega) ?_
  refine k_putF (T := TX9) (C := RX9) (N := 19) (ci := 9) hx hb hts (fun _ h => List.mem_cons_of_mem _ (List.mem_append_right _ h)) tyX9 tyX9_ok nmX9 hown hK hS (Nat.le_refl _) hself gcl9 17 (by decide) (List.mem_of_getElem? (i := 17) rfl) rfl rfl hin2 rfl rfl rfl (Nat.le_of_ble_eq_true rfl) dX9_init_111 (fun H26 locs e1 z1 o1 hS => ?_)
  replace hz := z1.trans hz
  replace f0 := f0.kept (o1 _ (ly_ne hy0 (j := 0) (by decide)))
  replace f1 := f1.kept (o1 _ (ly_ne hy0 (j := 1) (by decide)))
  replace f2 := f2.kept (o1 _ (ly_ne hy0 (j := 2) (by decide)))
  replace f3 := f3.kept (o1 _ (ly_ne hy0 (j := 3) (by decide)))
  replace f4 := f4.kept (o1 _ (ly_ne hy0 (j := 4) (by decide)))
  replace f5 := f5.kept (o1 _ (ly_ne hy0 (j := 5) (by decide)))
  replace f6 := f6.kept (o1 _ (ly_ne hy0 (j := 6) (by decide)))
  replace f7 := f7.kept (o1 _ (ly_ne hy0 (j := 7) (by decide)))
  replace f8 := f8.kept (o1 _ (ly_ne hy0 (j := 8) (by decide)))
  replace f9 := f9.kept (o1 _ (ly_ne hy0 (j := 9) (by decide)))
  replace f10 := f10.kept (o1 _ (ly_ne hy0 (j := 10) (by decide)))
  replace f11 := f11.kept (o1 _ (ly_ne hy0 (j := 11) (by decide)))
  replace f12 := f12.kept (o1 _ (ly_ne hy0 (j := 12) (by decide)))
  replace hself : HC D H26 (ad 21 0) (.inr (9, [.ref (ad 22 0), .ref (ad 22 1), .ref (ad 22 2), .ref (ad 22 3), .int 0, .ref (ad 22 4), .int 0, .ref (ad 22 5), .int 0, .ref (ad 22 6), .ref (ad 22 7), .int 0, .ref (ad 22 8), .ref (ad 22 9), .int 0, .ref (ad 22 10), .ref (ad 22 11), .ref (ad 22 12), .int 0])) := e1
  clear z1 o1 e1
  refine lv_aload_n hx hb dX9_init_114 rfl (lv_at hl 0 rfl) ?_
  refine k_get (v := .ref (ad 22 0)) (T := TX9) (C := RX9) (N := 19) (ci := 9) hx hb hts (fun _ h => List.mem_cons_of_mem _ (List.mem_append_right _ h)) hown hK hself gcl9 0 (by decide) (List.mem_of_getElem? (i := 5) rfl) rfl rfl dX9_init_115 ?_
  refine lv_iconst (v := (0 : Int32)) hx hb dX9_init_118 (by decide) ?_
  refine lv_iconst (v := (5 : Int32)) hx hb dX9_init_119 (by decide) ?_
  refine k_iast (n := 1730) (i := 0) hx hb hK hS (show ad 21 0 ≤ ad 22 0 from Nat.le_of_lt (ly_self hy0 (j := 0) (by decide))) f0 (by decide) (by decide) dX9_init_120 (fun H99 locs e1 z1 o1 hS => ?_)
  replace hz := z1.trans hz
  replace hself := hself.kept (o1 _ (ly_ne hy0 (j := 0) (by decide)).symm)
  replace f0 := e1
  replace f1 := f1.kept (o1 _ (Nat.ne_of_gt (ly_lt hy0 (i := 0) (j := 1) (by decide) (by decide))))
  replace f2 := f2.kept (o1 _ (Nat.ne_of_gt (ly_lt hy0 (i := 0) (j := 2) (by decide) (by decide))))
  replace f3 := f3.kept (o1 _ (Nat.ne_of_gt (ly_lt hy0 (i := 0) (j := 3) (by decide) (by decide))))
  replace f4 := f4.kept (o1 _ (Nat.ne_of_gt (ly_lt hy0 (i := 0) (j := 4) (by decide) (by decide))))
  replace f5 := f5.kept (o1 _ (Nat.ne_of_gt (ly_lt hy0 (i := 0) (j := 5) (by decide) (by decide))))
  replace f6 := f6.kept (o1 _ (Nat.ne_of_gt (ly_lt hy0 (i := 0) (j := 6) (by decide) (by decide))))
  replace f7 := f7.kept (o1 _ (Nat.ne_of_gt (ly_lt hy0 (i := 0) (j := 7) (by decide) (by decide))))
  replace f8 := f8.kept (o1 _ (Nat.ne_of_gt (ly_lt hy0 (i := 0) (j := 8) (by decide) (by decide))))
  replace f9 := f9.kept (o1 _ (Nat.ne_of_gt (ly_lt hy0 (i := 0) (j := 9) (by decide) (by decide))))
  replace f10 := f10.kept (o1 _ (Nat.ne_of_gt (ly_lt hy0 (i := 0) (j := 10) (by decide) (by decide))))
  replace f11 := f11.kept (o1 _ (Nat.ne_of_gt (ly_lt hy0 (i := 0) (j := 11) (by decide) (by decide))))
  replace f12 := f12.kept (o1 _ (Nat.ne_of_gt (ly_lt hy0 (i := 0) (j := 12) (by decide) (by decide))))
  have fz : HC D H99 (ad 22 0) (gC E ad 22 0 zR) := f0
  have fall : ∀ k, 0 < k → k < 13 → HC D H99 (ad 22 k) (gC E ad 22 k z0) := all13 f1 f2 f3 f4 f5 f6 f7 f8 f9 f10 f11 f12
  refine W.widen (k := 13) (n := 14696) (Nat.le_refl 13) (Nat.le_refl 14696) ?_
  exact W.vret hx hb hr (fun t ht hW => ⟨⟨(), rfl, trivial, by show Array.size t.heap = _ ∧ _; rw [ht]; exact ⟨by rw [hz, hy0 12 (by decide)], hself, fz, fall⟩⟩, hS.F ht⟩) hS.2.2 dX9_init_121
