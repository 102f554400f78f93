/-! ===== LAYER 3: the constructors (printed by wip/whole/initgen.py) ===== -/
def z0 : Nat → Int32 := fun _ => 0
def zS : Nat → Int32 := fun i => if i = 3 then 5 else 0
def z11 : Nat → Int32 := fun i => nI (3 + i)
def zR : Nat → Int32 := fun i => if i = 0 then 5 else 0
/-- where the cells lie -/
def LAY (ad : Nat → Nat → Nat) : Prop := (∀ k, k < 141 → ad 8 k = ad 7 k + 1 ∧ ad 9 k = ad 7 k + 2) ∧ (∀ j, j < 7 → ad 2 j = ad 1 j + 1 ∧ ad 3 j = ad 1 j + 2 ∧ ad 4 j = ad 1 j + 3 ∧ ad 5 j = ad 1 j + 4 ∧ ad 6 j = ad 1 j + 5 ∧ ∀ i, i < 20 → ad 7 (20 * j + i) = ad 1 j + 6 + 3 * i) ∧ (ad 11 0 = ad 10 0 + 1 ∧ ∀ i, i < 4 → ad 1 (3 + i) = ad 10 0 + 2 + 66 * i) ∧ (ad 13 0 = ad 12 0 + 1 ∧ ad 7 140 = ad 12 0 + 2) ∧ (ad 15 0 = ad 14 0 + 1 ∧ ad 16 0 = ad 14 0 + 2 ∧ ad 17 0 = ad 14 0 + 3 ∧ ad 18 0 = ad 14 0 + 4) ∧ ad 20 0 = ad 19 0 + 1 ∧ (∀ i, i < 3 → ad 1 i = ad 0 0 + 1 + 66 * i) ∧ (ad 10 0 = ad 0 0 + 199 ∧ ad 12 0 = ad 0 0 + 465 ∧ ad 14 0 = ad 0 0 + 470 ∧ ad 19 0 = ad 0 0 + 475) ∧ ∀ k, k < 13 → ad 22 k = ad 21 0 + 1 + k
theorem refs_step (F : Nat → Nat) (i t : Nat) : (if t = i then some (F i) else if t < i then some (F t) else none) = (if t < i + 1 then some (F t) else none) := by
  by_cases h1 : t = i
  · rw [if_pos h1, if_pos (by omega), h1]
  · rw [if_neg h1]
    by_cases h2 : t < i
    · rw [if_pos h2, if_pos (by omega)]
    · rw [if_neg h2, if_neg (by omega)]
section LY
variable {D : va_G} {E : Nat → ClassId} {ad : Nat → Nat → Nat} {H H1 : Heap} {k j : Nat}
def WB (D : va_G) (E : Nat → ClassId) (ad : Nat → Nat → Nat) (k : Nat) (H : Heap) : Prop := k < 141 ∧ HC D H (ad 7 k) (gC E ad 7 k z0) ∧ HC D H (ad 8 k) (gC E ad 8 k z0) ∧ HC D H (ad 9 k) (gC E ad 9 k z0)
theorem WB.kept (h : WB D E ad k H) (hy : LAY ad) (o : ∀ q, ad 7 k ≤ q → q < ad 7 k + 3 → H1[q]? = H[q]?) : WB D E ad k H1 := by
  have h1 := hy.1 k h.1
  exact ⟨h.1, h.2.1.kept (o _ (by omega) (by omega)), h.2.2.1.kept (o _ (by omega) (by omega)), h.2.2.2.kept (o _ (by omega) (by omega))⟩
def PB (D : va_G) (E : Nat → ClassId) (ad : Nat → Nat → Nat) (j : Nat) (H : Heap) : Prop := j < 7 ∧ HC D H (ad 2 j) (gC E ad 2 j z0) ∧ HC D H (ad 3 j) (gC E ad 3 j z0) ∧ HC D H (ad 4 j) (gC E ad 4 j z0)
theorem PB.kept (h : PB D E ad j H) (hy : LAY ad) (o : ∀ q, ad 1 j + 1 ≤ q → q < ad 1 j + 4 → H1[q]? = H[q]?) : PB D E ad j H1 := by
  have h1 := hy.2.1 j h.1
  exact ⟨h.1, h.2.1.kept (o _ (by omega) (by omega)), h.2.2.1.kept (o _ (by omega) (by omega)), h.2.2.2.kept (o _ (by omega) (by omega))⟩
def LB (D : va_G) (E : Nat → ClassId) (ad : Nat → Nat → Nat) (j : Nat) (H : Heap) : Prop := j < 7 ∧ HC D H (ad 5 j) (gC E ad 5 j z0) ∧ HC D H (ad 6 j) (gC E ad 6 j z0) ∧ ∀ i, i < 20 → WB D E ad (20 * j + i) H
theorem LB.kept (h : LB D E ad j H) (hy : LAY ad) (o : ∀ q, ad 1 j + 4 ≤ q → q < ad 1 j + 66 → H1[q]? = H[q]?) : LB D E ad j H1 := by
  have h1 := hy.2.1 j h.1
  exact ⟨h.1, h.2.1.kept (o _ (by omega) (by omega)), h.2.2.1.kept (o _ (by omega) (by omega)), fun i hi => by
    have h2 := h1.2.2.2.2.2 i hi
    exact (h.2.2.2 i hi).kept hy (fun q a b => o q (by omega) (by omega))⟩
def SB (D : va_G) (E : Nat → ClassId) (ad : Nat → Nat → Nat) (j : Nat) (H : Heap) : Prop := j < 7 ∧ HC D H (ad 1 j) (gC E ad 1 j zS) ∧ PB D E ad j H ∧ LB D E ad j H
theorem SB.kept (h : SB D E ad j H) (hy : LAY ad) (o : ∀ q, ad 1 j ≤ q → q < ad 1 j + 66 → H1[q]? = H[q]?) : SB D E ad j H1 :=
  ⟨h.1, h.2.1.kept (o _ (by omega) (by omega)), h.2.2.1.kept hy (fun q a b => o q (by omega) (by omega)), h.2.2.2.kept hy (fun q a b => o q (by omega) (by omega))⟩
def HB (D : va_G) (E : Nat → ClassId) (ad : Nat → Nat → Nat) (H : Heap) : Prop := HC D H (ad 10 0) (gC E ad 10 0 z0) ∧ HC D H (ad 11 0) (gC E ad 11 0 z11) ∧ ∀ i, i < 4 → SB D E ad (3 + i) H
theorem HB.kept (h : HB D E ad H) (hy : LAY ad) (o : ∀ q, ad 10 0 ≤ q → q < ad 10 0 + 266 → H1[q]? = H[q]?) : HB D E ad H1 := by
  have h1 := hy.2.2.1
  exact ⟨h.1.kept (o _ (by omega) (by omega)), h.2.1.kept (o _ (by omega) (by omega)), fun i hi => by
    have h2 := h1.2 i hi
    exact (h.2.2 i hi).kept hy (fun q a b => o q (by omega) (by omega))⟩
def TB (D : va_G) (E : Nat → ClassId) (ad : Nat → Nat → Nat) (H : Heap) : Prop := HC D H (ad 12 0) (gC E ad 12 0 z0) ∧ HC D H (ad 13 0) (gC E ad 13 0 z0) ∧ WB D E ad 140 H
theorem TB.kept (h : TB D E ad H) (hy : LAY ad) (o : ∀ q, ad 12 0 ≤ q → q < ad 12 0 + 5 → H1[q]? = H[q]?) : TB D E ad H1 := by
  have h1 := hy.2.2.2.1
  exact ⟨h.1.kept (o _ (by omega) (by omega)), h.2.1.kept (o _ (by omega) (by omega)), h.2.2.kept hy (fun q a b => o q (by omega) (by omega))⟩
def ZB (D : va_G) (E : Nat → ClassId) (ad : Nat → Nat → Nat) (H : Heap) : Prop := HC D H (ad 14 0) (gC E ad 14 0 z0) ∧ HC D H (ad 15 0) (gC E ad 15 0 z0) ∧ HC D H (ad 16 0) (gC E ad 16 0 z0) ∧ HC D H (ad 17 0) (gC E ad 17 0 z0) ∧ HC D H (ad 18 0) (gC E ad 18 0 z0)
theorem ZB.kept (h : ZB D E ad H) (hy : LAY ad) (o : ∀ q, ad 14 0 ≤ q → q < ad 14 0 + 5 → H1[q]? = H[q]?) : ZB D E ad H1 := by
  have h1 := hy.2.2.2.2.1
  exact ⟨h.1.kept (o _ (by omega) (by omega)), h.2.1.kept (o _ (by omega) (by omega)), h.2.2.1.kept (o _ (by omega) (by omega)), h.2.2.2.1.kept (o _ (by omega) (by omega)), h.2.2.2.2.kept (o _ (by omega) (by omega))⟩
def KB (D : va_G) (E : Nat → ClassId) (ad : Nat → Nat → Nat) (H : Heap) : Prop := HC D H (ad 19 0) (gC E ad 19 0 z0) ∧ HC D H (ad 20 0) (gC E ad 20 0 z0)
theorem KB.kept (h : KB D E ad H) (hy : LAY ad) (o : ∀ q, ad 19 0 ≤ q → q < ad 19 0 + 2 → H1[q]? = H[q]?) : KB D E ad H1 := by
  have h1 := hy.2.2.2.2.2.1
  exact ⟨h.1.kept (o _ (by omega) (by omega)), h.2.kept (o _ (by omega) (by omega))⟩
/-- the whole class -/
def XB (D : va_G) (E : Nat → ClassId) (ad : Nat → Nat → Nat) (H : Heap) : Prop := HC D H (ad 0 0) (gC E ad 0 0 z0) ∧ (SB D E ad 0 H ∧ SB D E ad 1 H ∧ SB D E ad 2 H) ∧ HB D E ad H ∧ TB D E ad H ∧ ZB D E ad H ∧ KB D E ad H
/-- the whole reference -/
def YB (D : va_G) (E : Nat → ClassId) (ad : Nat → Nat → Nat) (H : Heap) : Prop := HC D H (ad 21 0) (gC E ad 21 0 z0) ∧ HC D H (ad 22 0) (gC E ad 22 0 zR) ∧ ∀ k, 0 < k → k < 13 → HC D H (ad 22 k) (gC E ad 22 k z0)
end LY
abbrev rmX6_init : Room := { frames := 1, cells := 2, slots := 44, locals := 12 }
set_option maxHeartbeats 4000000 in
set_option maxRecDepth 100000 in
theorem iX6 (l : Launch) (D : va_G) (E : Nat → ClassId) (ad : Nat → Nat → Nat) (hy : LAY ad) (k : Nat) (hk : k < 141) : Met l yX6_init wsX6_init rmX6_init (va_Pc [.ref (ad 7 k)] (iPre D E (ad 7 k) (.inr (6, [.null, .null, .int 0, .int 0])))) (iQ (ad 7 k) 3 (WB D E ad k)) 2 44 (fun q => ad 7 k ≤ q) := by
  refine Met.ofW (cc := cX6_init) (maxL := 1) (ret := none) (by decide) rfl ?_
  intro p e s m args below meth c s₁ B hml hv
  obtain ⟨rfl, hz, hself, hK, hA4, hA6⟩ := hv
  have hx := B.exec
  have hb := B.bytes
  have hr := B.returns
  have hts := atoms_spec (ws := wsX6_init) B.pre
  have hown : s.vm.findClass RX6 = some m.cls := findClass_of_methodNamed B.named
  have hlocks := B.notSynchronized
  have hin2 : meth.name = "<init>" := (name_of_methodNamed B.named B.method).1
  have hy1 := hy.1 k hk
  have hS : va_S (fun q => ad 7 k ≤ q) s.heap s.heap [] := va_S.rf
  have hl := lv_entry ([.ref (ad 7 k)]) (n := 1) (Nat.le_of_ble_eq_true rfl)
  rw [lg_entry_eq]
  generalize (lg_sl ([.ref (ad 7 k)]) ++ List.replicate (1 - (lg_sl ([.ref (ad 7 k)])).length) Slot.unset).toArray = ls at hl ⊢
  have hl : lv_has ls 1 [(0, .ref (ad 7 k))] := hl
  refine lv_aload_n hx hb dX6_init_0 rfl (lv_at hl 0 rfl) ?_
  refine W.objInit hx hb hown (hts _ (List.mem_of_getElem? (i := 1) rfl)) (hts _ (List.mem_of_getElem? (i := 2) rfl)) (hts _ (List.mem_of_getElem? (i := 3) rfl)) rfl (by rw [hml]; exact hl.1) rfl dX6_init_1 (Nat.le_of_ble_eq_true rfl) (Nat.le_of_ble_eq_true rfl) ?_
  refine W.eq (g2 := F0 m 4 ls []) rfl ?_
  refine lv_aload_n hx hb dX6_init_4 rfl (lv_at hl 0 rfl) ?_
  refine lv_bipush (v := (15 : Int32)) hx hb dX6_init_5 (by decide) ?_
  have hh : Array.size s.heap = ad 8 k := by omega
  refine k_newa (atype := .int) (ty := .int) hx hb hts (List.mem_of_getElem? (i := 4) rfl) rfl rfl hK 0 rfl (fun h => h) 15 (by decide) (by decide) (Nat.le_of_ble_eq_true rfl) (Nat.le_of_ble_eq_true rfl) (Nat.le_of_ble_eq_true rfl) hh dX6_init_7 (fun H1 e1 z1 o1 => ?_)
  replace hS := kS_new hS hh z1 o1
  replace hself := hself.kept (o1 _ (by omega))
  have f8 : HC D H1 (ad 8 k) (gC E ad 8 k z0) := e1
  replace hz := z1
  clear z1 o1 e1 hh
  refine k_putF (T := TX6) (C := RX6) (N := 4) (ci := 6) hx hb hts (fun _ h => List.mem_cons_of_mem _ (List.mem_append_right _ h)) tyX6 tyX6_ok nmX6 hown hK hS (Nat.le_refl _) hself gcl6 0 (by decide) (List.mem_of_getElem? (i := 5) rfl) rfl rfl hin2 rfl rfl rfl (Nat.le_of_ble_eq_true rfl) dX6_init_9 (fun H2 locs e1 z1 o1 hS => ?_)
  replace hz := z1.trans hz
  replace f8 := f8.kept (o1 _ (by omega))
  replace hself := e1
  clear z1 o1 e1
  refine lv_aload_n hx hb dX6_init_12 rfl (lv_at hl 0 rfl) ?_
  refine lv_bipush (v := (29 : Int32)) hx hb dX6_init_13 (by decide) ?_
  have hh : Array.size H2 = ad 9 k := by omega
  refine k_newa (atype := .int) (ty := .int) hx hb hts (List.mem_of_getElem? (i := 4) rfl) rfl rfl hK 0 rfl (fun h => h) 29 (by decide) (by decide) (Nat.le_of_ble_eq_true rfl) (Nat.le_of_ble_eq_true rfl) (Nat.le_of_ble_eq_true rfl) hh dX6_init_15 (fun H3 e1 z1 o1 => ?_)
  replace hS := kS_new hS hh z1 o1
  replace hself := hself.kept (o1 _ (by omega))
  replace f8 := f8.kept (o1 _ (by omega))
  have f9 : HC D H3 (ad 9 k) (gC E ad 9 k z0) := e1
  replace hz := z1
  clear z1 o1 e1 hh
  refine k_putF (T := TX6) (C := RX6) (N := 4) (ci := 6) hx hb hts (fun _ h => List.mem_cons_of_mem _ (List.mem_append_right _ h)) tyX6 tyX6_ok nmX6 hown hK hS (Nat.le_refl _) hself gcl6 1 (by decide) (List.mem_of_getElem? (i := 6) rfl) rfl rfl hin2 rfl rfl rfl (Nat.le_of_ble_eq_true rfl) dX6_init_17 (fun H4 locs e1 z1 o1 hS => ?_)
  replace hz := z1.trans hz
  replace f8 := f8.kept (o1 _ (by omega))
  replace f9 := f9.kept (o1 _ (by omega))
  replace hself := e1
  clear z1 o1 e1
  refine lv_aload_n hx hb dX6_init_20 rfl (lv_at hl 0 rfl) ?_
  refine lv_iconst (v := (0 : Int32)) hx hb dX6_init_21 (by decide) ?_
  refine k_put (T := TX6) (C := RX6) (N := 4) (ci := 6) hx hb hts (fun _ h => List.mem_cons_of_mem _ (List.mem_append_right _ h)) tyX6 tyX6_ok nmX6 hown hK hS (Nat.le_refl _) hself gcl6 2 (by decide) (List.mem_of_getElem? (i := 7) rfl) rfl rfl rfl rfl (Nat.le_of_ble_eq_true rfl) dX6_init_22 (fun H5 locs e1 z1 o1 hS => ?_)
  replace hz := z1.trans hz
  replace f8 := f8.kept (o1 _ (by omega))
  replace f9 := f9.kept (o1 _ (by omega))
  replace hself := e1
  clear z1 o1 e1
  refine lv_aload_n hx hb dX6_init_25 rfl (lv_at hl 0 rfl) ?_
  refine lv_iconst (v := (0 : Int32)) hx hb dX6_init_26 (by decide) ?_
  refine k_put (T := TX6) (C := RX6) (N := 4) (ci := 6) hx hb hts (fun _ h => List.mem_cons_of_mem _ (List.mem_append_right _ h)) tyX6 tyX6_ok nmX6 hown hK hS (Nat.le_refl _) hself gcl6 3 (by decide) (List.mem_of_getElem? (i := 8) rfl) rfl rfl rfl rfl (Nat.le_of_ble_eq_true rfl) dX6_init_27 (fun H6 locs e1 z1 o1 hS => ?_)
  replace hz := z1.trans hz
  replace f8 := f8.kept (o1 _ (by omega))
  replace f9 := f9.kept (o1 _ (by omega))
  replace hself := e1
  clear z1 o1 e1
  refine W.widen (k := 2) (n := 44) (Nat.le_of_ble_eq_true rfl) (Nat.le_of_ble_eq_true rfl) ?_
  exact W.vret hx hb hr (fun t ht hW => ⟨⟨(), rfl, trivial, by show Array.size t.heap = _ ∧ _; rw [ht]; exact ⟨by omega, hk, hself, f8, f9⟩⟩, hS.F ht⟩) hS.2.2 dX6_init_30
abbrev rmX1_init : Room := { frames := 1, cells := 2, slots := 1404, locals := 12 }
set_option maxHeartbeats 4000000 in
set_option maxRecDepth 100000 in
theorem iX1 (l : Launch) (D : va_G) (E : Nat → ClassId) (ad : Nat → Nat → Nat) (hy : LAY ad) (j : Nat) (hj : j < 7) : Met l yX1_init wsX1_init rmX1_init (va_Pc [.ref (ad 2 j)] (iPre D E (ad 2 j) (.inr (1, [.null, .null])))) (iQ (ad 2 j) 3 (PB D E ad j)) 2 1404 (fun q => ad 2 j ≤ q) := by
  refine Met.ofW (cc := cX1_init) (maxL := 1) (ret := none) (by decide) rfl ?_
  intro p e s m args below meth c s₁ B hml hv
  obtain ⟨rfl, hz, hself, hK, hA4, hA6⟩ := hv
  have hx := B.exec
  have hb := B.bytes
  have hr := B.returns
  have hts := atoms_spec (ws := wsX1_init) B.pre
  have hown : s.vm.findClass RX1 = some m.cls := findClass_of_methodNamed B.named
  have hlocks := B.notSynchronized
  have hin2 : meth.name = "<init>" := (name_of_methodNamed B.named B.method).1
  have hy1 := hy.2.1 j hj
  have hS : va_S (fun q => ad 2 j ≤ q) s.heap s.heap [] := va_S.rf
  have hl := lv_entry ([.ref (ad 2 j)]) (n := 1) (Nat.le_of_ble_eq_true rfl)
  rw [lg_entry_eq]
  generalize (lg_sl ([.ref (ad 2 j)]) ++ List.replicate (1 - (lg_sl ([.ref (ad 2 j)])).length) Slot.unset).toArray = ls at hl ⊢
  have hl : lv_has ls 1 [(0, .ref (ad 2 j))] := hl
  refine lv_aload_n hx hb dX1_init_0 rfl (lv_at hl 0 rfl) ?_
  refine W.objInit hx hb hown (hts _ (List.mem_of_getElem? (i := 1) rfl)) (hts _ (List.mem_of_getElem? (i := 2) rfl)) (hts _ (List.mem_of_getElem? (i := 3) rfl)) rfl (by rw [hml]; exact hl.1) rfl dX1_init_1 (Nat.le_of_ble_eq_true rfl) (Nat.le_of_ble_eq_true rfl) ?_
  refine W.eq (g2 := F0 m 4 ls []) rfl ?_
  refine lv_aload_n hx hb dX1_init_4 rfl (lv_at hl 0 rfl) ?_
  refine lv_sipush (v := (702 : Int32)) hx hb dX1_init_5 (by decide) ?_
  have hh : Array.size s.heap = ad 3 j := by omega
  refine k_newa (atype := .int) (ty := .int) hx hb hts (List.mem_of_getElem? (i := 4) rfl) rfl rfl hK 0 rfl (fun h => h) 702 (by decide) (by decide) (Nat.le_of_ble_eq_true rfl) (Nat.le_of_ble_eq_true rfl) (Nat.le_of_ble_eq_true rfl) hh dX1_init_8 (fun H1 e1 z1 o1 => ?_)
  replace hS := kS_new hS hh z1 o1
  replace hself := hself.kept (o1 _ (by omega))
  have f3 : HC D H1 (ad 3 j) (gC E ad 3 j z0) := e1
  replace hz := z1
  clear z1 o1 e1 hh
  refine k_putF (T := TX1) (C := RX1) (N := 2) (ci := 1) hx hb hts (fun _ h => List.mem_cons_of_mem _ (List.mem_append_right _ h)) tyX1 tyX1_ok nmX1 hown hK hS (Nat.le_refl _) hself gcl1 0 (by decide) (List.mem_of_getElem? (i := 5) rfl) rfl rfl hin2 rfl rfl rfl (Nat.le_of_ble_eq_true rfl) dX1_init_10 (fun H2 locs e1 z1 o1 hS => ?_)
  replace hz := z1.trans hz
  replace f3 := f3.kept (o1 _ (by omega))
  replace hself := e1
  clear z1 o1 e1
  refine lv_aload_n hx hb dX1_init_13 rfl (lv_at hl 0 rfl) ?_
  refine lv_sipush (v := (702 : Int32)) hx hb dX1_init_14 (by decide) ?_
  have hh : Array.size H2 = ad 4 j := by omega
  refine k_newa (atype := .int) (ty := .int) hx hb hts (List.mem_of_getElem? (i := 4) rfl) rfl rfl hK 0 rfl (fun h => h) 702 (by decide) (by decide) (Nat.le_of_ble_eq_true rfl) (Nat.le_of_ble_eq_true rfl) (Nat.le_of_ble_eq_true rfl) hh dX1_init_17 (fun H3 e1 z1 o1 => ?_)
  replace hS := kS_new hS hh z1 o1
  replace hself := hself.kept (o1 _ (by omega))
  replace f3 := f3.kept (o1 _ (by omega))
  have f4 : HC D H3 (ad 4 j) (gC E ad 4 j z0) := e1
  replace hz := z1
  clear z1 o1 e1 hh
  refine k_putF (T := TX1) (C := RX1) (N := 2) (ci := 1) hx hb hts (fun _ h => List.mem_cons_of_mem _ (List.mem_append_right _ h)) tyX1 tyX1_ok nmX1 hown hK hS (Nat.le_refl _) hself gcl1 1 (by decide) (List.mem_of_getElem? (i := 6) rfl) rfl rfl hin2 rfl rfl rfl (Nat.le_of_ble_eq_true rfl) dX1_init_19 (fun H4 locs e1 z1 o1 hS => ?_)
  replace hz := z1.trans hz
  replace f3 := f3.kept (o1 _ (by omega))
  replace f4 := f4.kept (o1 _ (by omega))
  replace hself := e1
  clear z1 o1 e1
  refine W.widen (k := 2) (n := 1404) (Nat.le_of_ble_eq_true rfl) (Nat.le_of_ble_eq_true rfl) ?_
  exact W.vret hx hb hr (fun t ht hW => ⟨⟨(), rfl, trivial, by show Array.size t.heap = _ ∧ _; rw [ht]; exact ⟨by omega, hj, hself, f3, f4⟩⟩, hS.F ht⟩) hS.2.2 dX1_init_22
abbrev rmX3_init : Room := { frames := 1, cells := 4, slots := 742, locals := 12 }
set_option maxHeartbeats 4000000 in
set_option maxRecDepth 100000 in
theorem iX3 (l : Launch) (D : va_G) (E : Nat → ClassId) (ad : Nat → Nat → Nat) (hy : LAY ad)  : Met l yX3_init wsX3_init rmX3_init (va_Pc [.ref (ad 14 0)] (iPre D E (ad 14 0) (.inr (3, [.null, .null, .null, .null, .int 0])))) (iQ (ad 14 0) 5 (ZB D E ad)) 4 742 (fun q => ad 14 0 ≤ q) := by
  refine Met.ofW (cc := cX3_init) (maxL := 1) (ret := none) (by decide) rfl ?_
  intro p e s m args below meth c s₁ B hml hv
  obtain ⟨rfl, hz, hself, hK, hA4, hA6⟩ := hv
  have hx := B.exec
  have hb := B.bytes
  have hr := B.returns
  have hts := atoms_spec (ws := wsX3_init) B.pre
  have hown : s.vm.findClass RX3 = some m.cls := findClass_of_methodNamed B.named
  have hlocks := B.notSynchronized
  have hin2 : meth.name = "<init>" := (name_of_methodNamed B.named B.method).1
  have hy1 := hy.2.2.2.2.1
  have hS : va_S (fun q => ad 14 0 ≤ q) s.heap s.heap [] := va_S.rf
  have hl := lv_entry ([.ref (ad 14 0)]) (n := 1) (Nat.le_of_ble_eq_true rfl)
  rw [lg_entry_eq]
  generalize (lg_sl ([.ref (ad 14 0)]) ++ List.replicate (1 - (lg_sl ([.ref (ad 14 0)])).length) Slot.unset).toArray = ls at hl ⊢
  have hl : lv_has ls 1 [(0, .ref (ad 14 0))] := hl
  refine lv_aload_n hx hb dX3_init_0 rfl (lv_at hl 0 rfl) ?_
  refine W.objInit hx hb hown (hts _ (List.mem_of_getElem? (i := 1) rfl)) (hts _ (List.mem_of_getElem? (i := 2) rfl)) (hts _ (List.mem_of_getElem? (i := 3) rfl)) rfl (by rw [hml]; exact hl.1) rfl dX3_init_1 (Nat.le_of_ble_eq_true rfl) (Nat.le_of_ble_eq_true rfl) ?_
  refine W.eq (g2 := F0 m 4 ls []) rfl ?_
  refine lv_aload_n hx hb dX3_init_4 rfl (lv_at hl 0 rfl) ?_
  refine lv_bipush (v := (10 : Int32)) hx hb dX3_init_5 (by decide) ?_
  have hh : Array.size s.heap = ad 15 0 := by omega
  refine k_newa (atype := .int) (ty := .int) hx hb hts (List.mem_of_getElem? (i := 4) rfl) rfl rfl hK 0 rfl (fun h => h) 10 (by decide) (by decide) (Nat.le_of_ble_eq_true rfl) (Nat.le_of_ble_eq_true rfl) (Nat.le_of_ble_eq_true rfl) hh dX3_init_7 (fun H1 e1 z1 o1 => ?_)
  replace hS := kS_new hS hh z1 o1
  replace hself := hself.kept (o1 _ (by omega))
  have f15 : HC D H1 (ad 15 0) (gC E ad 15 0 z0) := e1
  replace hz := z1
  clear z1 o1 e1 hh
  refine k_putF (T := TX3) (C := RX3) (N := 5) (ci := 3) hx hb hts (fun _ h => List.mem_cons_of_mem _ (List.mem_append_right _ h)) tyX3 tyX3_ok nmX3 hown hK hS (Nat.le_refl _) hself gcl3 0 (by decide) (List.mem_of_getElem? (i := 5) rfl) rfl rfl hin2 rfl rfl rfl (Nat.le_of_ble_eq_true rfl) dX3_init_9 (fun H2 locs e1 z1 o1 hS => ?_)
  replace hz := z1.trans hz
  replace f15 := f15.kept (o1 _ (by omega))
  replace hself := e1
  clear z1 o1 e1
  refine lv_aload_n hx hb dX3_init_12 rfl (lv_at hl 0 rfl) ?_
  refine lv_bipush (v := (10 : Int32)) hx hb dX3_init_13 (by decide) ?_
  have hh : Array.size H2 = ad 16 0 := by omega
  refine k_newa (atype := .int) (ty := .int) hx hb hts (List.mem_of_getElem? (i := 4) rfl) rfl rfl hK 0 rfl (fun h => h) 10 (by decide) (by decide) (Nat.le_of_ble_eq_true rfl) (Nat.le_of_ble_eq_true rfl) (Nat.le_of_ble_eq_true rfl) hh dX3_init_15 (fun H3 e1 z1 o1 => ?_)
  replace hS := kS_new hS hh z1 o1
  replace hself := hself.kept (o1 _ (by omega))
  replace f15 := f15.kept (o1 _ (by omega))
  have f16 : HC D H3 (ad 16 0) (gC E ad 16 0 z0) := e1
  replace hz := z1
  clear z1 o1 e1 hh
  refine k_putF (T := TX3) (C := RX3) (N := 5) (ci := 3) hx hb hts (fun _ h => List.mem_cons_of_mem _ (List.mem_append_right _ h)) tyX3 tyX3_ok nmX3 hown hK hS (Nat.le_refl _) hself gcl3 1 (by decide) (List.mem_of_getElem? (i := 6) rfl) rfl rfl hin2 rfl rfl rfl (Nat.le_of_ble_eq_true rfl) dX3_init_17 (fun H4 locs e1 z1 o1 hS => ?_)
  replace hz := z1.trans hz
  replace f15 := f15.kept (o1 _ (by omega))
  replace f16 := f16.kept (o1 _ (by omega))
  replace hself := e1
  clear z1 o1 e1
  refine lv_aload_n hx hb dX3_init_20 rfl (lv_at hl 0 rfl) ?_
  refine lv_sipush (v := (702 : Int32)) hx hb dX3_init_21 (by decide) ?_
  have hh : Array.size H4 = ad 17 0 := by omega
  refine k_newa (atype := .boolean) (ty := .boolean) hx hb hts (List.mem_of_getElem? (i := 7) rfl) rfl rfl hK 1 rfl (fun h => h) 702 (by decide) (by decide) (Nat.le_of_ble_eq_true rfl) (Nat.le_of_ble_eq_true rfl) (Nat.le_of_ble_eq_true rfl) hh dX3_init_24 (fun H5 e1 z1 o1 => ?_)
  replace hS := kS_new hS hh z1 o1
  replace hself := hself.kept (o1 _ (by omega))
  replace f15 := f15.kept (o1 _ (by omega))
  replace f16 := f16.kept (o1 _ (by omega))
  have f17 : HC D H5 (ad 17 0) (gC E ad 17 0 z0) := e1
  replace hz := z1
  clear z1 o1 e1 hh
  refine k_putF (T := TX3) (C := RX3) (N := 5) (ci := 3) hx hb hts (fun _ h => List.mem_cons_of_mem _ (List.mem_append_right _ h)) tyX3 tyX3_ok nmX3 hown hK hS (Nat.le_refl _) hself gcl3 2 (by decide) (List.mem_of_getElem? (i := 8) rfl) rfl rfl hin2 rfl rfl rfl (Nat.le_of_ble_eq_true rfl) dX3_init_26 (fun H6 locs e1 z1 o1 hS => ?_)
  replace hz := z1.trans hz
  replace f15 := f15.kept (o1 _ (by omega))
  replace f16 := f16.kept (o1 _ (by omega))
  replace f17 := f17.kept (o1 _ (by omega))
  replace hself := e1
  clear z1 o1 e1
  refine lv_aload_n hx hb dX3_init_29 rfl (lv_at hl 0 rfl) ?_
  refine lv_bipush (v := (20 : Int32)) hx hb dX3_init_30 (by decide) ?_
  have hh : Array.size H6 = ad 18 0 := by omega
  refine k_newa (atype := .boolean) (ty := .boolean) hx hb hts (List.mem_of_getElem? (i := 7) rfl) rfl rfl hK 1 rfl (fun h => h) 20 (by decide) (by decide) (Nat.le_of_ble_eq_true rfl) (Nat.le_of_ble_eq_true rfl) (Nat.le_of_ble_eq_true rfl) hh dX3_init_32 (fun H7 e1 z1 o1 => ?_)
  replace hS := kS_new hS hh z1 o1
  replace hself := hself.kept (o1 _ (by omega))
  replace f15 := f15.kept (o1 _ (by omega))
  replace f16 := f16.kept (o1 _ (by omega))
  replace f17 := f17.kept (o1 _ (by omega))
  have f18 : HC D H7 (ad 18 0) (gC E ad 18 0 z0) := e1
  replace hz := z1
  clear z1 o1 e1 hh
  refine k_putF (T := TX3) (C := RX3) (N := 5) (ci := 3) hx hb hts (fun _ h => List.mem_cons_of_mem _ (List.mem_append_right _ h)) tyX3 tyX3_ok nmX3 hown hK hS (Nat.le_refl _) hself gcl3 3 (by decide) (List.mem_of_getElem? (i := 9) rfl) rfl rfl hin2 rfl rfl rfl (Nat.le_of_ble_eq_true rfl) dX3_init_34 (fun H8 locs e1 z1 o1 hS => ?_)
  replace hz := z1.trans hz
  replace f15 := f15.kept (o1 _ (by omega))
  replace f16 := f16.kept (o1 _ (by omega))
  replace f17 := f17.kept (o1 _ (by omega))
  replace f18 := f18.kept (o1 _ (by omega))
  replace hself := e1
  clear z1 o1 e1
  refine lv_aload_n hx hb dX3_init_37 rfl (lv_at hl 0 rfl) ?_
  refine lv_iconst (v := (0 : Int32)) hx hb dX3_init_38 (by decide) ?_
  refine k_put (T := TX3) (C := RX3) (N := 5) (ci := 3) hx hb hts (fun _ h => List.mem_cons_of_mem _ (List.mem_append_right _ h)) tyX3 tyX3_ok nmX3 hown hK hS (Nat.le_refl _) hself gcl3 4 (by decide) (List.mem_of_getElem? (i := 10) rfl) rfl rfl rfl rfl (Nat.le_of_ble_eq_true rfl) dX3_init_39 (fun H9 locs e1 z1 o1 hS => ?_)
  replace hz := z1.trans hz
  replace f15 := f15.kept (o1 _ (by omega))
  replace f16 := f16.kept (o1 _ (by omega))
  replace f17 := f17.kept (o1 _ (by omega))
  replace f18 := f18.kept (o1 _ (by omega))
  replace hself := e1
  clear z1 o1 e1
  refine W.widen (k := 4) (n := 742) (Nat.le_of_ble_eq_true rfl) (Nat.le_of_ble_eq_true rfl) ?_
  exact W.vret hx hb hr (fun t ht hW => ⟨⟨(), rfl, trivial, by show Array.size t.heap = _ ∧ _; rw [ht]; exact ⟨by omega, hself, f15, f16, f17, f18⟩⟩, hS.F ht⟩) hS.2.2 dX3_init_42
abbrev rmX2_init : Room := { frames := 1, cells := 1, slots := 100, locals := 12 }
set_option maxHeartbeats 4000000 in
set_option maxRecDepth 100000 in
theorem iX2 (l : Launch) (D : va_G) (E : Nat → ClassId) (ad : Nat → Nat → Nat) (hy : LAY ad)  : Met l yX2_init wsX2_init rmX2_init (va_Pc [.ref (ad 19 0)] (iPre D E (ad 19 0) (.inr (2, [.null])))) (iQ (ad 19 0) 2 (KB D E ad)) 1 100 (fun q => ad 19 0 ≤ q) := by
  refine Met.ofW (cc := cX2_init) (maxL := 1) (ret := none) (by decide) rfl ?_
  intro p e s m args below meth c s₁ B hml hv
  obtain ⟨rfl, hz, hself, hK, hA4, hA6⟩ := hv
  have hx := B.exec
  have hb := B.bytes
  have hr := B.returns
  have hts := atoms_spec (ws := wsX2_init) B.pre
  have hown : s.vm.findClass RX2 = some m.cls := findClass_of_methodNamed B.named
  have hlocks := B.notSynchronized
  have hin2 : meth.name = "<init>" := (name_of_methodNamed B.named B.method).1
  have hy1 := hy.2.2.2.2.2.1
  have hS : va_S (fun q => ad 19 0 ≤ q) s.heap s.heap [] := va_S.rf
  have hl := lv_entry ([.ref (ad 19 0)]) (n := 1) (Nat.le_of_ble_eq_true rfl)
  rw [lg_entry_eq]
  generalize (lg_sl ([.ref (ad 19 0)]) ++ List.replicate (1 - (lg_sl ([.ref (ad 19 0)])).length) Slot.unset).toArray = ls at hl ⊢
  have hl : lv_has ls 1 [(0, .ref (ad 19 0))] := hl
  refine lv_aload_n hx hb dX2_init_0 rfl (lv_at hl 0 rfl) ?_
  refine W.objInit hx hb hown (hts _ (List.mem_of_getElem? (i := 1) rfl)) (hts _ (List.mem_of_getElem? (i := 2) rfl)) (hts _ (List.mem_of_getElem? (i := 3) rfl)) rfl (by rw [hml]; exact hl.1) rfl dX2_init_1 (Nat.le_of_ble_eq_true rfl) (Nat.le_of_ble_eq_true rfl) ?_
  refine W.eq (g2 := F0 m 4 ls []) rfl ?_
  refine lv_aload_n hx hb dX2_init_4 rfl (lv_at hl 0 rfl) ?_
  refine lv_bipush (v := (100 : Int32)) hx hb dX2_init_5 (by decide) ?_
  have hh : Array.size s.heap = ad 20 0 := by omega
  refine k_newa (atype := .int) (ty := .int) hx hb hts (List.mem_of_getElem? (i := 4) rfl) rfl rfl hK 0 rfl (fun h => h) 100 (by decide) (by decide) (Nat.le_of_ble_eq_true rfl) (Nat.le_of_ble_eq_true rfl) (Nat.le_of_ble_eq_true rfl) hh dX2_init_7 (fun H1 e1 z1 o1 => ?_)
  replace hS := kS_new hS hh z1 o1
  replace hself := hself.kept (o1 _ (by omega))
  have f20 : HC D H1 (ad 20 0) (gC E ad 20 0 z0) := e1
  replace hz := z1
  clear z1 o1 e1 hh
  refine k_putF (T := TX2) (C := RX2) (N := 1) (ci := 2) hx hb hts (fun _ h => List.mem_cons_of_mem _ (List.mem_append_right _ h)) tyX2 tyX2_ok nmX2 hown hK hS (Nat.le_refl _) hself gcl2 0 (by decide) (List.mem_of_getElem? (i := 5) rfl) rfl rfl hin2 rfl rfl rfl (Nat.le_of_ble_eq_true rfl) dX2_init_9 (fun H2 locs e1 z1 o1 hS => ?_)
  replace hz := z1.trans hz
  replace f20 := f20.kept (o1 _ (by omega))
  replace hself := e1
  clear z1 o1 e1
  refine W.widen (k := 1) (n := 100) (Nat.le_of_ble_eq_true rfl) (Nat.le_of_ble_eq_true rfl) ?_
  exact W.vret hx hb hr (fun t ht hW => ⟨⟨(), rfl, trivial, by show Array.size t.heap = _ ∧ _; rw [ht]; exact ⟨by omega, hself, f20⟩⟩, hS.F ht⟩) hS.2.2 dX2_init_12
abbrev rmX5_init : Room := { frames := 2, cells := 4, slots := 108, locals := 32 }
set_option maxHeartbeats 4000000 in
set_option maxRecDepth 100000 in
theorem iX5 (l : Launch) (D : va_G) (E : Nat → ClassId) (ad : Nat → Nat → Nat) (hy : LAY ad)  : Met l yX5_init wsX5_init rmX5_init (va_Pc [.ref (ad 12 0)] (iPre D E (ad 12 0) (.inr (5, [.null, .null, .int 0])))) (iQ (ad 12 0) 5 (TB D E ad)) 4 108 (fun q => ad 12 0 ≤ q) := by
  refine Met.ofW (cc := cX5_init) (maxL := 1) (ret := none) (by decide) rfl ?_
  intro p e s m args below meth c s₁ B hml hv
  obtain ⟨rfl, hz, hself, hK, hA4, hA6⟩ := hv
  have hx := B.exec
  have hb := B.bytes
  have hr := B.returns
  have hts := atoms_spec (ws := wsX5_init) B.pre
  have hown : s.vm.findClass RX5 = some m.cls := findClass_of_methodNamed B.named
  have hlocks := B.notSynchronized
  have hin2 : meth.name = "<init>" := (name_of_methodNamed B.named B.method).1
  have hy1 := hy.2.2.2.1
  have hy2 := hy.1 140 (by omega)
  have hS : va_S (fun q => ad 12 0 ≤ q) s.heap s.heap [] := va_S.rf
  have hl := lv_entry ([.ref (ad 12 0)]) (n := 1) (Nat.le_of_ble_eq_true rfl)
  rw [lg_entry_eq]
  generalize (lg_sl ([.ref (ad 12 0)]) ++ List.replicate (1 - (lg_sl ([.ref (ad 12 0)])).length) Slot.unset).toArray = ls at hl ⊢
  have hl : lv_has ls 1 [(0, .ref (ad 12 0))] := hl
  refine lv_aload_n hx hb dX5_init_0 rfl (lv_at hl 0 rfl) ?_
  refine W.objInit hx hb hown (hts _ (List.mem_of_getElem? (i := 1) rfl)) (hts _ (List.mem_of_getElem? (i := 2) rfl)) (hts _ (List.mem_of_getElem? (i := 3) rfl)) rfl (by rw [hml]; exact hl.1) rfl dX5_init_1 (Nat.le_of_ble_eq_true rfl) (Nat.le_of_ble_eq_true rfl) ?_
  refine W.eq (g2 := F0 m 4 ls []) rfl ?_
  refine lv_aload_n hx hb dX5_init_4 rfl (lv_at hl 0 rfl) ?_
  refine lv_bipush (v := (60 : Int32)) hx hb dX5_init_5 (by decide) ?_
  have hh : Array.size s.heap = ad 13 0 := by omega
  refine k_newa (atype := .char) (ty := .char) hx hb hts (List.mem_of_getElem? (i := 4) rfl) rfl rfl hK 2 rfl (fun h => h) 60 (by decide) (by decide) (Nat.le_of_ble_eq_true rfl) (Nat.le_of_ble_eq_true rfl) (Nat.le_of_ble_eq_true rfl) hh dX5_init_7 (fun H1 e1 z1 o1 => ?_)
  replace hS := kS_new hS hh z1 o1
  replace hself := hself.kept (o1 _ (by omega))
  have f13 : HC D H1 (ad 13 0) (gC E ad 13 0 z0) := e1
  replace hz := z1
  clear z1 o1 e1 hh
  refine k_putF (T := TX5) (C := RX5) (N := 3) (ci := 5) hx hb hts (fun _ h => List.mem_cons_of_mem _ (List.mem_append_left _ (List.mem_append_right _ h))) tyX5 tyX5_ok nmX5 hown hK hS (Nat.le_refl _) hself gcl5 0 (by decide) (List.mem_of_getElem? (i := 5) rfl) rfl rfl hin2 rfl rfl rfl (Nat.le_of_ble_eq_true rfl) dX5_init_9 (fun H2 locs e1 z1 o1 hS => ?_)
  replace hz := z1.trans hz
  replace f13 := f13.kept (o1 _ (by omega))
  replace hself := e1
  clear z1 o1 e1
  refine lv_aload_n hx hb dX5_init_12 rfl (lv_at hl 0 rfl) ?_
  have hh : Array.size H2 = ad 7 140 := by omega
  refine k_new (C := RX6) (T := TX6) (N := 4) (ci := 6) (fs := [.null, .null, .int 0, .int 0]) hx hb hts (fun _ h => List.mem_cons_of_mem _ (List.mem_append_right _ h)) tyX6 tyX6_ok hown (List.mem_of_getElem? (i := 6) rfl) (List.mem_of_getElem? (i := 7) rfl) (List.mem_of_getElem? (i := 8) rfl) hK gcl6 (fun i hi => by obtain rfl | rfl | rfl | rfl := (by omega : i = 0 ∨ i = 1 ∨ i = 2 ∨ i = 3) <;> rfl) (Nat.le_of_ble_eq_true rfl) (Nat.le_of_ble_eq_true rfl) hh dX5_init_13 (fun H3 e1 z1 o1 => ?_)
  have hS := kS_new hS hh z1 o1
  replace hself := hself.kept (o1 _ (by omega))
  replace f13 := f13.kept (o1 _ (by omega))
  have hnew := e1
  replace hz := z1
  clear z1 o1 e1 hh
  refine lv_dup hx hb dX5_init_16 rfl ?_
  refine va_callv (va_runI (As := []) (rest := [.ref (ad 7 140), .ref (ad 12 0)]) ⟨hx, hb, hml, hown, hts⟩ (iX6 l D E ad hy 140 (by omega)) (cwI 0 hts gX5_init_X6_init rfl rfl rfl (hts _ (List.mem_of_getElem? (i := 8) rfl)) (hts _ (List.mem_of_getElem? (i := 11) rfl)) (hts _ (List.mem_of_getElem? (i := 12) rfl)) rfl (by decide +kernel) ⟨(Nat.le_of_ble_eq_true rfl), (Nat.le_of_ble_eq_true rfl)⟩) ⟨iPre.blind _, fun U hU hW => iPre.at hK hA4 hA6 hz hnew _ U hU hW⟩ rfl rfl hl.1 rfl (lv_room (Nat.le_of_ble_eq_true rfl)) dX5_init_17 ⟨(Nat.le_of_ble_eq_true rfl), (Nat.le_of_ble_eq_true rfl)⟩) hS (fun q _ h => Nat.le_trans (by omega) h) (fun q h => Nat.le_trans (by omega) h) (fun u t H4 locs ht hvm _ hB hz1 hk1 hS => ?_)
  rw [ht] at hB
  obtain ⟨hz2, hB⟩ := hB
  have o1 : ∀ q, q < ad 7 140 → H4[q]? = H3[q]? := fun q hq => hk1 q (by omega) (Nat.not_le.mpr hq)
  replace hself := hself.kept (o1 _ (by omega))
  replace f13 := f13.kept (o1 _ (by omega))
  have w140 : WB D E ad 140 H4 := hB
  replace hz := hz2
  clear hz2 hB o1 hz1 hnew
  refine k_putF (T := TX5) (C := RX5) (N := 3) (ci := 5) hx hb hts (fun _ h => List.mem_cons_of_mem _ (List.mem_append_left _ (List.mem_append_right _ h))) tyX5 tyX5_ok nmX5 hown hK hS (Nat.le_refl _) hself gcl5 1 (by decide) (List.mem_of_getElem? (i := 9) rfl) rfl rfl hin2 rfl rfl rfl (Nat.le_of_ble_eq_true rfl) dX5_init_20 (fun H5 locs e1 z1 o1 hS => ?_)
  replace hz := z1.trans hz
  replace f13 := f13.kept (o1 _ (by omega))
  replace w140 := w140.kept hy (fun q hq _ => o1 q (by omega))
  replace hself := e1
  clear z1 o1 e1
  refine lv_aload_n hx hb dX5_init_23 rfl (lv_at hl 0 rfl) ?_
  refine lv_iconst (v := (0 : Int32)) hx hb dX5_init_24 (by decide) ?_
  refine k_put (T := TX5) (C := RX5) (N := 3) (ci := 5) hx hb hts (fun _ h => List.mem_cons_of_mem _ (List.mem_append_left _ (List.mem_append_right _ h))) tyX5 tyX5_ok nmX5 hown hK hS (Nat.le_refl _) hself gcl5 2 (by decide) (List.mem_of_getElem? (i := 10) rfl) rfl rfl rfl rfl (Nat.le_of_ble_eq_true rfl) dX5_init_25 (fun H6 locs e1 z1 o1 hS => ?_)
  replace hz := z1.trans hz
  replace f13 := f13.kept (o1 _ (by omega))
  replace w140 := w140.kept hy (fun q hq _ => o1 q (by omega))
  replace hself := e1
  clear z1 o1 e1
  refine W.widen (k := 4) (n := 108) (Nat.le_of_ble_eq_true rfl) (Nat.le_of_ble_eq_true rfl) ?_
  exact W.vret hx hb hr (fun t ht hW => ⟨⟨(), rfl, trivial, by show Array.size t.heap = _ ∧ _; rw [ht]; exact ⟨by omega, hself, f13, w140⟩⟩, hS.F ht⟩) hS.2.2 dX5_init_28
abbrev rmX7_init : Room := { frames := 2, cells := 61, slots := 980, locals := 32 }
set_option maxHeartbeats 4000000 in
set_option maxRecDepth 100000 in
theorem iX7 (l : Launch) (D : va_G) (E : Nat → ClassId) (ad : Nat → Nat → Nat) (hy : LAY ad) (j : Nat) (hj : j < 7) : Met l yX7_init wsX7_init rmX7_init (va_Pc [.ref (ad 5 j)] (iPre D E (ad 5 j) (.inr (7, [.null, .int 0])))) (iQ (ad 5 j) 62 (LB D E ad j)) 61 980 (fun q => ad 5 j ≤ q) := by
  refine Met.ofW (cc := cX7_init) (maxL := 2) (ret := none) (by decide) rfl ?_
  intro p e s m args below meth c s₁ B hml hv
  obtain ⟨rfl, hz, hself, hK, hA4, hA6⟩ := hv
  have hx := B.exec
  have hb := B.bytes
  have hr := B.returns
  have hts := atoms_spec (ws := wsX7_init) B.pre
  have hown : s.vm.findClass RX7 = some m.cls := findClass_of_methodNamed B.named
  have hlocks := B.notSynchronized
  have hin2 : meth.name = "<init>" := (name_of_methodNamed B.named B.method).1
  have hy1 := hy.2.1 j hj
  have hS : va_S (fun q => ad 5 j ≤ q) s.heap s.heap [] := va_S.rf
  have hl := lv_entry ([.ref (ad 5 j)]) (n := 2) (Nat.le_of_ble_eq_true rfl)
  rw [lg_entry_eq]
  generalize (lg_sl ([.ref (ad 5 j)]) ++ List.replicate (2 - (lg_sl ([.ref (ad 5 j)])).length) Slot.unset).toArray = ls at hl ⊢
  have hl : lv_has ls 2 [(0, .ref (ad 5 j))] := hl
  refine lv_aload_n hx hb dX7_init_0 rfl (lv_at hl 0 rfl) ?_
  refine W.objInit hx hb hown (hts _ (List.mem_of_getElem? (i := 1) rfl)) (hts _ (List.mem_of_getElem? (i := 2) rfl)) (hts _ (List.mem_of_getElem? (i := 3) rfl)) rfl (by rw [hml]; exact hl.1) rfl dX7_init_1 (Nat.le_of_ble_eq_true rfl) (Nat.le_of_ble_eq_true rfl) ?_
  refine W.eq (g2 := F0 m 4 ls []) rfl ?_
  refine lv_aload_n hx hb dX7_init_4 rfl (lv_at hl 0 rfl) ?_
  refine lv_bipush (v := (20 : Int32)) hx hb dX7_init_5 (by decide) ?_
  have hh : Array.size s.heap = ad 6 j := by omega
  refine k_newq (C := RX6) hx hb hts hown (List.mem_of_getElem? (i := 4) rfl) hA6 hK 4 rfl 20 (by decide) (by decide) (Nat.le_of_ble_eq_true rfl) (Nat.le_of_ble_eq_true rfl) (Nat.le_of_ble_eq_true rfl) hh dX7_init_7 (fun H1 e1 z1 o1 => ?_)
  have hS := kS_new hS hh z1 o1
  have hself := hself.kept (o1 _ (by omega))
  have harr := e1
  have hz := z1
  refine k_putF (T := TX7) (C := RX7) (N := 2) (ci := 7) hx hb hts (fun _ h => List.mem_cons_of_mem _ (List.mem_append_left _ (List.mem_append_right _ h))) tyX7 tyX7_ok nmX7 hown hK hS (Nat.le_refl _) hself gcl7 0 (by decide) (List.mem_of_getElem? (i := 5) rfl) rfl rfl hin2 rfl rfl rfl (Nat.le_of_ble_eq_true rfl) dX7_init_10 (fun H2 locs e1 z1 o1 hS => ?_)
  replace hz := z1.trans hz
  replace harr := harr.kept (o1 _ (by omega))
  replace hself := e1
  clear z1 o1 e1
  refine lv_iconst (v := (0 : Int32)) hx hb dX7_init_13 (by decide) ?_
  refine lv_istore_n (lv' := [(1, .int (nI 0)), (0, .ref (ad 5 j))]) hx hb dX7_init_14 rfl hl (by decide) rfl (fun ls hl => ?_)
  have key : ∀ (d i : Nat) (H : Heap) (locs : List Loc) (ls : Array Slot), i + d = 20 → H.size = ad 5 j + 2 + 3 * i → HC D H (ad 5 j) (.inr (7, [.ref (ad 6 j), .int 0])) → HC D H (ad 6 j) (.inl (E 4, 20, .inr (.inr (.inr (.inr (fun t => if t < i then some (ad 7 (20 * j + t)) else none)))))) → (∀ t, t < i → WB D E ad (20 * j + t) H) → va_S (fun q => ad 5 j ≤ q) s.heap H locs → lv_has ls 2 [(0, .ref (ad 5 j)), (1, .int (nI i))] → W p l e (headSpec wsX7_init rmX7_init).room s m (([.ref (ad 5 j)] : List Value).toArray) below meth c H locs (1 + 3 * i) (20 + 48 * i) (MQ below (iQ (ad 5 j) 62 (LB D E ad j)) ([.ref (ad 5 j)] : List Value).toArray s 61 980 (fun q => ad 5 j ≤ q)) (F0 m 15 ls []) := by
    intro d
    induction d with
    | zero =>
      intro i H locs ls hi hz hself harr hws hS hl
      obtain rfl : i = 20 := by omega
      refine lv_iload_n hx hb dX7_init_15 rfl (lv_at hl 1 rfl) ?_
      refine lv_bipush (v := (20 : Int32)) hx hb dX7_init_16 (by decide) ?_
      refine lv_icmp_ge (tgt := 40) hx hb dX7_init_18 (by decide) (fun _ => ?_) (fun z => absurd (by decide) z)
      refine lv_aload_n hx hb dX7_init_40 rfl (lv_at hl 0 rfl) ?_
      refine lv_iconst (v := (0 : Int32)) hx hb dX7_init_41 (by decide) ?_
      refine k_put (T := TX7) (C := RX7) (N := 2) (ci := 7) hx hb hts (fun _ h => List.mem_cons_of_mem _ (List.mem_append_left _ (List.mem_append_right _ h))) tyX7 tyX7_ok nmX7 hown hK hS (Nat.le_refl _) hself gcl7 1 (by decide) (List.mem_of_getElem? (i := 8) rfl) rfl rfl rfl rfl (Nat.le_of_ble_eq_true rfl) dX7_init_42 (fun H3 locs e1 z1 o1 hS => ?_)
      replace hz := z1.trans hz
      replace harr := harr.kept (o1 _ (by omega))
      replace hself := e1
      have hws : ∀ t, t < 20 → WB D E ad (20 * j + t) H3 := fun t ht => (hws t ht).kept hy (fun q hq _ => o1 q (by have := hy1.2.2.2.2.2 t (by omega); omega))
      refine W.widen (k := 61) (n := 980) (Nat.le_of_ble_eq_true rfl) (Nat.le_of_ble_eq_true rfl) ?_
      exact W.vret hx hb hr (fun t ht hW => ⟨⟨(), rfl, trivial, by show Array.size t.heap = _ ∧ _; rw [ht]; exact ⟨by omega, hj, hself, harr.refs (fun t ht => if_pos ht), hws⟩⟩, hS.F ht⟩) hS.2.2 dX7_init_45
    | succ d ih =>
      intro i H locs ls hi hz hself harr hws hS hl
      have hlt : i < 20 := by omega
      have hyi := hy1.2.2.2.2.2 i hlt
      refine lv_iload_n hx hb dX7_init_15 rfl (lv_at hl 1 rfl) ?_
      refine lv_bipush (v := (20 : Int32)) hx hb dX7_init_16 (by decide) ?_
      refine lv_icmp_ge (tgt := 40) hx hb dX7_init_18 (by decide) (fun z => absurd z (nI_ge (a := i) (b := 20) hlt (by omega))) (fun _ => ?_)
      refine lv_aload_n hx hb dX7_init_21 rfl (lv_at hl 0 rfl) ?_
      refine k_get (v := .ref (ad 6 j)) (T := TX7) (C := RX7) (N := 2) (ci := 7) hx hb hts (fun _ h => List.mem_cons_of_mem _ (List.mem_append_left _ (List.mem_append_right _ h))) hown hK hself gcl7 0 (by decide) (List.mem_of_getElem? (i := 5) rfl) rfl rfl dX7_init_22 ?_
      refine lv_iload_n hx hb dX7_init_25 rfl (lv_at hl 1 rfl) ?_
      have hpre := hws
      have hh : Array.size H = ad 7 (20 * j + i) := by omega
      refine k_new (C := RX6) (T := TX6) (N := 4) (ci := 6) (fs := [.null, .null, .int 0, .int 0]) hx hb hts (fun _ h => List.mem_cons_of_mem _ (List.mem_append_right _ h)) tyX6 tyX6_ok hown (List.mem_of_getElem? (i := 4) rfl) (List.mem_of_getElem? (i := 6) rfl) (List.mem_of_getElem? (i := 7) rfl) hK gcl6 (fun i hi => by obtain rfl | rfl | rfl | rfl := (by omega : i = 0 ∨ i = 1 ∨ i = 2 ∨ i = 3) <;> rfl) (by show 1 + 3 * i + 1 ≤ 61; omega) (by show 20 + 48 * i + 4 ≤ 980; omega) hh dX7_init_26 (fun H4 e1 z1 o1 => ?_)
      have hS := kS_new hS hh z1 o1
      replace hself := hself.kept (o1 _ (by omega))
      replace harr := harr.kept (o1 _ (by omega))
      have hws := fun t ht => (hws t ht).kept hy (fun q _ hq => o1 q (by have := hy1.2.2.2.2.2 t (by omega); omega))
      have hnew := e1
      replace hz := z1
      clear z1 o1 e1 hh
      refine lv_dup hx hb dX7_init_29 rfl ?_
      refine va_callv (va_runI (As := []) (rest := [.ref (ad 7 (20 * j + i)), .int (nI i), .ref (ad 6 j)]) ⟨hx, hb, hml, hown, hts⟩ (iX6 l D E ad hy (20 * j + i) (by omega)) (cwI 0 hts gX7_init_X6_init rfl rfl rfl (hts _ (List.mem_of_getElem? (i := 7) rfl)) (hts _ (List.mem_of_getElem? (i := 9) rfl)) (hts _ (List.mem_of_getElem? (i := 10) rfl)) rfl (by decide +kernel) ⟨(Nat.le_of_ble_eq_true rfl), (Nat.le_of_ble_eq_true rfl)⟩) ⟨iPre.blind _, fun U hU hW => iPre.at hK hA4 hA6 hz hnew _ U hU hW⟩ rfl rfl hl.1 rfl (lv_room (Nat.le_of_ble_eq_true rfl)) dX7_init_30 ⟨(by show 1 + 3 * i + 1 + 2 ≤ 61; omega), (by show 20 + 48 * i + 4 + 44 ≤ 980; omega)⟩) hS (fun q _ h => Nat.le_trans (by omega) h) (fun q h => Nat.le_trans (by omega) h) (fun u t H5 locs ht hvm _ hB hz1 hk1 hS => ?_)
      rw [ht] at hB
      obtain ⟨hz2, hB⟩ := hB
      have o1 : ∀ q, q < ad 7 (20 * j + i) → H5[q]? = H4[q]? := fun q hq => hk1 q (by omega) (Nat.not_le.mpr hq)
      replace hself := hself.kept (o1 _ (by omega))
      replace harr := harr.kept (o1 _ (by omega))
      have hws := fun t ht => (hws t ht).kept hy (fun q _ hq => o1 q (by have := hy1.2.2.2.2.2 t (by omega); omega))
      have hwi : WB D E ad (20 * j + i) H5 := hB
      replace hz := hz2
      clear hz2 hB o1 hz1 hnew
      refine k_astq (t0 := 4) (ci := 6) hx hb hK hS (show ad 5 j ≤ ad 6 j by omega) harr rfl (hwi.2.1) gcl6 hlt (by omega) dX7_init_33 (fun H6 locs e1 z1 o1 hS => ?_)
      have hself := hself.kept (o1 _ (by omega))
      have hwi := hwi.kept hy (fun q hq _ => o1 q (by omega))
      have hws := fun t ht => (hws t ht).kept hy (fun q hq _ => o1 q (by have := hy1.2.2.2.2.2 t (by omega); omega))
      have harr := e1.refs (g := fun t => if t < i + 1 then some (ad 7 (20 * j + t)) else none) (fun t _ => refs_step (fun t => ad 7 (20 * j + t)) i t)
      refine lv_iinc (v := (nI i + (1 : Int32))) (lv' := [(1, .int (nI i + (1 : Int32))), (0, .ref (ad 5 j))]) hx hb dX7_init_34 hl (k := 1) rfl rfl (by decide) rfl (fun ls hl => ?_)
      refine lv_goto (tgt := 15) hx hb dX7_init_37 (by decide) ?_
      rw [nI_add1] at hl
      have hz3 := z1.trans hz
      refine W.widen (k := 1 + 3 * (i + 1)) (n := 20 + 48 * (i + 1)) (by omega) (by omega) ?_
      refine ih (i + 1) _ _ _ (by omega) (by omega) hself harr (fun t ht => ?_) hS (lv_sub hl [1, 0] rfl)
      rcases Nat.lt_or_ge t i with y | y
      · exact hws t y
      · obtain rfl : t = i := by omega
        exact hwi
  exact key 20 0 _ _ _ (by omega) (by omega) hself (harr.refs (fun t _ => by rw [if_neg (by omega)])) (fun t ht => absurd ht (by omega)) hS (lv_sub hl [1, 0] rfl)
abbrev rmX4_init : Room := { frames := 3, cells := 65, slots := 2388, locals := 53 }
set_option maxHeartbeats 4000000 in
set_option maxRecDepth 100000 in
theorem iX4 (l : Launch) (D : va_G) (E : Nat → ClassId) (ad : Nat → Nat → Nat) (hy : LAY ad) (j : Nat) (hj : j < 7) : Met l yX4_init wsX4_init rmX4_init (va_Pc [.ref (ad 1 j)] (iPre D E (ad 1 j) (.inr (4, [.null, .null, .int 0, .int 0, .int 0, .int 0, .int 0])))) (iQ (ad 1 j) 66 (SB D E ad j)) 65 2388 (fun q => ad 1 j ≤ q) := by
  refine Met.ofW (cc := cX4_init) (maxL := 1) (ret := none) (by decide) rfl ?_
  intro p e s m args below meth c s₁ B hml hv
  obtain ⟨rfl, hz, hself, hK, hA4, hA6⟩ := hv
  have hx := B.exec
  have hb := B.bytes
  have hr := B.returns
  have hts := atoms_spec (ws := wsX4_init) B.pre
  have hown : s.vm.findClass RX4 = some m.cls := findClass_of_methodNamed B.named
  have hlocks := B.notSynchronized
  have hin2 : meth.name = "<init>" := (name_of_methodNamed B.named B.method).1
  have hy1 := hy.2.1 j hj
  have hS : va_S (fun q => ad 1 j ≤ q) s.heap s.heap [] := va_S.rf
  have hl := lv_entry ([.ref (ad 1 j)]) (n := 1) (Nat.le_of_ble_eq_true rfl)
  rw [lg_entry_eq]
  generalize (lg_sl ([.ref (ad 1 j)]) ++ List.replicate (1 - (lg_sl ([.ref (ad 1 j)])).length) Slot.unset).toArray = ls at hl ⊢
  have hl : lv_has ls 1 [(0, .ref (ad 1 j))] := hl
  refine lv_aload_n hx hb dX4_init_0 rfl (lv_at hl 0 rfl) ?_
  refine W.objInit hx hb hown (hts _ (List.mem_of_getElem? (i := 1) rfl)) (hts _ (List.mem_of_getElem? (i := 2) rfl)) (hts _ (List.mem_of_getElem? (i := 3) rfl)) rfl (by rw [hml]; exact hl.1) rfl dX4_init_1 (Nat.le_of_ble_eq_true rfl) (Nat.le_of_ble_eq_true rfl) ?_
  refine W.eq (g2 := F0 m 4 ls []) rfl ?_
  refine lv_aload_n hx hb dX4_init_4 rfl (lv_at hl 0 rfl) ?_
  have hh : Array.size s.heap = ad 2 j := by omega
  refine k_new (C := RX1) (T := TX1) (N := 2) (ci := 1) (fs := [.null, .null]) hx hb hts (fun _ h => List.mem_cons_of_mem _ (List.mem_append_left _ (List.mem_append_left _ (List.mem_append_left _ (List.mem_append_right _ h))))) tyX1 tyX1_ok hown (List.mem_of_getElem? (i := 4) rfl) (List.mem_of_getElem? (i := 5) rfl) (List.mem_of_getElem? (i := 6) rfl) hK gcl1 (fun i hi => by obtain rfl | rfl := (by omega : i = 0 ∨ i = 1) <;> rfl) (Nat.le_of_ble_eq_true rfl) (Nat.le_of_ble_eq_true rfl) hh dX4_init_5 (fun H1 e1 z1 o1 => ?_)
  have hS := kS_new hS hh z1 o1
  replace hself := hself.kept (o1 _ (by omega))
  have hnew := e1
  replace hz := z1
  clear z1 o1 e1 hh
  refine lv_dup hx hb dX4_init_8 rfl ?_
  refine va_callv (va_runI (As := []) (rest := [.ref (ad 2 j), .ref (ad 1 j)]) ⟨hx, hb, hml, hown, hts⟩ (iX1 l D E ad hy j hj) (cwI 0 hts gX4_init_X1_init rfl rfl rfl (hts _ (List.mem_of_getElem? (i := 6) rfl)) (hts _ (List.mem_of_getElem? (i := 17) rfl)) (hts _ (List.mem_of_getElem? (i := 18) rfl)) rfl (by decide +kernel) ⟨(Nat.le_of_ble_eq_true rfl), (Nat.le_of_ble_eq_true rfl)⟩) ⟨iPre.blind _, fun U hU hW => iPre.at hK hA4 hA6 hz hnew _ U hU hW⟩ rfl rfl hl.1 rfl (lv_room (Nat.le_of_ble_eq_true rfl)) dX4_init_9 ⟨(Nat.le_of_ble_eq_true rfl), (Nat.le_of_ble_eq_true rfl)⟩) hS (fun q _ h => Nat.le_trans (by omega) h) (fun q h => Nat.le_trans (by omega) h) (fun u t H2 locs ht hvm _ hB hz1 hk1 hS => ?_)
  rw [ht] at hB
  obtain ⟨hz2, hB⟩ := hB
  have o1 : ∀ q, q < ad 2 j → H2[q]? = H1[q]? := fun q hq => hk1 q (by omega) (Nat.not_le.mpr hq)
  replace hself := hself.kept (o1 _ (by omega))
  have pb : PB D E ad j H2 := hB
  replace hz := hz2
  clear hz2 hB o1 hz1 hnew
  refine k_putF (T := TX4) (C := RX4) (N := 7) (ci := 4) hx hb hts (fun _ h => List.mem_cons_of_mem _ (List.mem_append_left _ (List.mem_append_left _ (List.mem_append_right _ h)))) tyX4 tyX4_ok nmX4 hown hK hS (Nat.le_refl _) hself gcl4 0 (by decide) (List.mem_of_getElem? (i := 7) rfl) rfl rfl hin2 rfl rfl rfl (Nat.le_of_ble_eq_true rfl) dX4_init_12 (fun H3 locs e1 z1 o1 hS => ?_)
  replace hz := z1.trans hz
  replace pb := pb.kept hy (fun q hq _ => o1 q (by omega))
  replace hself := e1
  clear z1 o1 e1
  refine lv_aload_n hx hb dX4_init_15 rfl (lv_at hl 0 rfl) ?_
  have hh : Array.size H3 = ad 5 j := by omega
  refine k_new (C := RX7) (T := TX7) (N := 2) (ci := 7) (fs := [.null, .int 0]) hx hb hts (fun _ h => List.mem_cons_of_mem _ (List.mem_append_left _ (List.mem_append_right _ h))) tyX7 tyX7_ok hown (List.mem_of_getElem? (i := 8) rfl) (List.mem_of_getElem? (i := 9) rfl) (List.mem_of_getElem? (i := 10) rfl) hK gcl7 (fun i hi => by obtain rfl | rfl := (by omega : i = 0 ∨ i = 1) <;> rfl) (Nat.le_of_ble_eq_true rfl) (Nat.le_of_ble_eq_true rfl) hh dX4_init_16 (fun H4 e1 z1 o1 => ?_)
  have hS := kS_new hS hh z1 o1
  replace hself := hself.kept (o1 _ (by omega))
  replace pb := pb.kept hy (fun q _ hq => o1 q (by omega))
  have hnew := e1
  replace hz := z1
  clear z1 o1 e1 hh
  refine lv_dup hx hb dX4_init_19 rfl ?_
  refine va_callv (va_runI (As := []) (rest := [.ref (ad 5 j), .ref (ad 1 j)]) ⟨hx, hb, hml, hown, hts⟩ (iX7 l D E ad hy j hj) (cwI 0 hts gX4_init_X7_init rfl rfl rfl (hts _ (List.mem_of_getElem? (i := 10) rfl)) (hts _ (List.mem_of_getElem? (i := 24) rfl)) (hts _ (List.mem_of_getElem? (i := 25) rfl)) rfl (by decide +kernel) ⟨(Nat.le_of_ble_eq_true rfl), (Nat.le_of_ble_eq_true rfl)⟩) ⟨iPre.blind _, fun U hU hW => iPre.at hK hA4 hA6 hz hnew _ U hU hW⟩ rfl rfl hl.1 rfl (lv_room (Nat.le_of_ble_eq_true rfl)) dX4_init_20 ⟨(Nat.le_of_ble_eq_true rfl), (Nat.le_of_ble_eq_true rfl)⟩) hS (fun q _ h => Nat.le_trans (by omega) h) (fun q h => Nat.le_trans (by omega) h) (fun u t H5 locs ht hvm _ hB hz1 hk1 hS => ?_)
  rw [ht] at hB
  obtain ⟨hz2, hB⟩ := hB
  have o1 : ∀ q, q < ad 5 j → H5[q]? = H4[q]? := fun q hq => hk1 q (by omega) (Nat.not_le.mpr hq)
  replace hself := hself.kept (o1 _ (by omega))
  replace pb := pb.kept hy (fun q _ hq => o1 q (by omega))
  have lb : LB D E ad j H5 := hB
  replace hz := hz2
  clear hz2 hB o1 hz1 hnew
  refine k_putF (T := TX4) (C := RX4) (N := 7) (ci := 4) hx hb hts (fun _ h => List.mem_cons_of_mem _ (List.mem_append_left _ (List.mem_append_left _ (List.mem_append_right _ h)))) tyX4 tyX4_ok nmX4 hown hK hS (Nat.le_refl _) hself gcl4 1 (by decide) (List.mem_of_getElem? (i := 11) rfl) rfl rfl hin2 rfl rfl rfl (Nat.le_of_ble_eq_true rfl) dX4_init_23 (fun H6 locs e1 z1 o1 hS => ?_)
  replace hz := z1.trans hz
  replace pb := pb.kept hy (fun q hq _ => o1 q (by omega))
  replace lb := lb.kept hy (fun q hq _ => o1 q (by omega))
  replace hself := e1
  clear z1 o1 e1
  refine lv_aload_n hx hb dX4_init_26 rfl (lv_at hl 0 rfl) ?_
  refine lv_iconst (v := (0 : Int32)) hx hb dX4_init_27 (by decide) ?_
  refine k_put (T := TX4) (C := RX4) (N := 7) (ci := 4) hx hb hts (fun _ h => List.mem_cons_of_mem _ (List.mem_append_left _ (List.mem_append_left _ (List.mem_append_right _ h)))) tyX4 tyX4_ok nmX4 hown hK hS (Nat.le_refl _) hself gcl4 2 (by decide) (List.mem_of_getElem? (i := 12) rfl) rfl rfl rfl rfl (Nat.le_of_ble_eq_true rfl) dX4_init_28 (fun H7 locs e1 z1 o1 hS => ?_)
  replace hz := z1.trans hz
  replace pb := pb.kept hy (fun q hq _ => o1 q (by omega))
  replace lb := lb.kept hy (fun q hq _ => o1 q (by omega))
  replace hself := e1
  clear z1 o1 e1
  refine lv_aload_n hx hb dX4_init_31 rfl (lv_at hl 0 rfl) ?_
  refine lv_iconst (v := (5 : Int32)) hx hb dX4_init_32 (by decide) ?_
  refine k_put (T := TX4) (C := RX4) (N := 7) (ci := 4) hx hb hts (fun _ h => List.mem_cons_of_mem _ (List.mem_append_left _ (List.mem_append_left _ (List.mem_append_right _ h)))) tyX4 tyX4_ok nmX4 hown hK hS (Nat.le_refl _) hself gcl4 3 (by decide) (List.mem_of_getElem? (i := 13) rfl) rfl rfl rfl rfl (Nat.le_of_ble_eq_true rfl) dX4_init_33 (fun H8 locs e1 z1 o1 hS => ?_)
  replace hz := z1.trans hz
  replace pb := pb.kept hy (fun q hq _ => o1 q (by omega))
  replace lb := lb.kept hy (fun q hq _ => o1 q (by omega))
  replace hself := e1
  clear z1 o1 e1
  refine lv_aload_n hx hb dX4_init_36 rfl (lv_at hl 0 rfl) ?_
  refine lv_iconst (v := (0 : Int32)) hx hb dX4_init_37 (by decide) ?_
  refine k_put (T := TX4) (C := RX4) (N := 7) (ci := 4) hx hb hts (fun _ h => List.mem_cons_of_mem _ (List.mem_append_left _ (List.mem_append_left _ (List.mem_append_right _ h)))) tyX4 tyX4_ok nmX4 hown hK hS (Nat.le_refl _) hself gcl4 4 (by decide) (List.mem_of_getElem? (i := 14) rfl) rfl rfl rfl rfl (Nat.le_of_ble_eq_true rfl) dX4_init_38 (fun H9 locs e1 z1 o1 hS => ?_)
  replace hz := z1.trans hz
  replace pb := pb.kept hy (fun q hq _ => o1 q (by omega))
  replace lb := lb.kept hy (fun q hq _ => o1 q (by omega))
  replace hself := e1
  clear z1 o1 e1
  refine lv_aload_n hx hb dX4_init_41 rfl (lv_at hl 0 rfl) ?_
  refine lv_iconst (v := (0 : Int32)) hx hb dX4_init_42 (by decide) ?_
  refine k_put (T := TX4) (C := RX4) (N := 7) (ci := 4) hx hb hts (fun _ h => List.mem_cons_of_mem _ (List.mem_append_left _ (List.mem_append_left _ (List.mem_append_right _ h)))) tyX4 tyX4_ok nmX4 hown hK hS (Nat.le_refl _) hself gcl4 5 (by decide) (List.mem_of_getElem? (i := 15) rfl) rfl rfl rfl rfl (Nat.le_of_ble_eq_true rfl) dX4_init_43 (fun H10 locs e1 z1 o1 hS => ?_)
  replace hz := z1.trans hz
  replace pb := pb.kept hy (fun q hq _ => o1 q (by omega))
  replace lb := lb.kept hy (fun q hq _ => o1 q (by omega))
  replace hself := e1
  clear z1 o1 e1
  refine lv_aload_n hx hb dX4_init_46 rfl (lv_at hl 0 rfl) ?_
  refine lv_iconst (v := (0 : Int32)) hx hb dX4_init_47 (by decide) ?_
  refine k_put (T := TX4) (C := RX4) (N := 7) (ci := 4) hx hb hts (fun _ h => List.mem_cons_of_mem _ (List.mem_append_left _ (List.mem_append_left _ (List.mem_append_right _ h)))) tyX4 tyX4_ok nmX4 hown hK hS (Nat.le_refl _) hself gcl4 6 (by decide) (List.mem_of_getElem? (i := 16) rfl) rfl rfl rfl rfl (Nat.le_of_ble_eq_true rfl) dX4_init_48 (fun H11 locs e1 z1 o1 hS => ?_)
  replace hz := z1.trans hz
  replace pb := pb.kept hy (fun q hq _ => o1 q (by omega))
  replace lb := lb.kept hy (fun q hq _ => o1 q (by omega))
  replace hself := e1
  clear z1 o1 e1
  refine W.widen (k := 65) (n := 2388) (Nat.le_of_ble_eq_true rfl) (Nat.le_of_ble_eq_true rfl) ?_
  exact W.vret hx hb hr (fun t ht hW => ⟨⟨(), rfl, trivial, by show Array.size t.heap = _ ∧ _; rw [ht]; exact ⟨by omega, hj, hself, pb, lb⟩⟩, hS.F ht⟩) hS.2.2 dX4_init_51
abbrev rmX0_init : Room := { frames := 4, cells := 265, slots := 9584, locals := 73 }
set_option maxHeartbeats 4000000 in
set_option maxRecDepth 100000 in
theorem iX0 (l : Launch) (D : va_G) (E : Nat → ClassId) (ad : Nat → Nat → Nat) (hy : LAY ad)  : Met l yX0_init wsX0_init rmX0_init (va_Pc [.ref (ad 10 0)] (iPre D E (ad 10 0) (.inr (0, [.null, .int 0])))) (iQ (ad 10 0) 266 (HB D E ad)) 265 9584 (fun q => ad 10 0 ≤ q) := by
  refine Met.ofW (cc := cX0_init) (maxL := 2) (ret := none) (by decide) rfl ?_
  intro p e s m args below meth c s₁ B hml hv
  obtain ⟨rfl, hz, hself, hK, hA4, hA6⟩ := hv
  have hx := B.exec
  have hb := B.bytes
  have hr := B.returns
  have hts := atoms_spec (ws := wsX0_init) B.pre
  have hown : s.vm.findClass RX0 = some m.cls := findClass_of_methodNamed B.named
  have hlocks := B.notSynchronized
  have hin2 : meth.name = "<init>" := (name_of_methodNamed B.named B.method).1
  have hy1 := hy.2.2.1
  have hS : va_S (fun q => ad 10 0 ≤ q) s.heap s.heap [] := va_S.rf
  have hl := lv_entry ([.ref (ad 10 0)]) (n := 2) (Nat.le_of_ble_eq_true rfl)
  rw [lg_entry_eq]
  generalize (lg_sl ([.ref (ad 10 0)]) ++ List.replicate (2 - (lg_sl ([.ref (ad 10 0)])).length) Slot.unset).toArray = ls at hl ⊢
  have hl : lv_has ls 2 [(0, .ref (ad 10 0))] := hl
  refine lv_aload_n hx hb dX0_init_0 rfl (lv_at hl 0 rfl) ?_
  refine W.objInit hx hb hown (hts _ (List.mem_of_getElem? (i := 1) rfl)) (hts _ (List.mem_of_getElem? (i := 2) rfl)) (hts _ (List.mem_of_getElem? (i := 3) rfl)) rfl (by rw [hml]; exact hl.1) rfl dX0_init_1 (Nat.le_of_ble_eq_true rfl) (Nat.le_of_ble_eq_true rfl) ?_
  refine W.eq (g2 := F0 m 4 ls []) rfl ?_
  refine lv_aload_n hx hb dX0_init_4 rfl (lv_at hl 0 rfl) ?_
  refine lv_iconst (v := (4 : Int32)) hx hb dX0_init_5 (by decide) ?_
  have hh : Array.size s.heap = ad 11 0 := by omega
  refine k_newq (C := RX4) hx hb hts hown (List.mem_of_getElem? (i := 4) rfl) hA4 hK 3 rfl 4 (by decide) (by decide) (Nat.le_of_ble_eq_true rfl) (Nat.le_of_ble_eq_true rfl) (Nat.le_of_ble_eq_true rfl) hh dX0_init_6 (fun H1 e1 z1 o1 => ?_)
  have hS := kS_new hS hh z1 o1
  have hself := hself.kept (o1 _ (by omega))
  have harr := e1
  have hz := z1
  refine k_putF (T := TX0) (C := RX0) (N := 2) (ci := 0) hx hb hts (fun _ h => List.mem_cons_of_mem _ (List.mem_append_left _ (List.mem_append_left _ (List.mem_append_left _ (List.mem_append_left _ (List.mem_append_right _ h)))))) tyX0 tyX0_ok nmX0 hown hK hS (Nat.le_refl _) hself gcl0 0 (by decide) (List.mem_of_getElem? (i := 5) rfl) rfl rfl hin2 rfl rfl rfl (Nat.le_of_ble_eq_true rfl) dX0_init_9 (fun H2 locs e1 z1 o1 hS => ?_)
  replace hz := z1.trans hz
  replace harr := harr.kept (o1 _ (by omega))
  replace hself := e1
  clear z1 o1 e1
  refine lv_iconst (v := (0 : Int32)) hx hb dX0_init_12 (by decide) ?_
  refine lv_istore_n (lv' := [(1, .int (nI 0)), (0, .ref (ad 10 0))]) hx hb dX0_init_13 rfl hl (by decide) rfl (fun ls hl => ?_)
  have key : ∀ (d i : Nat) (H : Heap) (locs : List Loc) (ls : Array Slot), i + d = 4 → H.size = ad 10 0 + 2 + 66 * i → HC D H (ad 10 0) (.inr (0, [.ref (ad 11 0), .int 0])) → HC D H (ad 11 0) (.inl (E 3, 4, .inr (.inr (.inr (.inr (fun t => if t < i then some (ad 1 (3 + t)) else none)))))) → (∀ t, t < i → SB D E ad (3 + t) H) → va_S (fun q => ad 10 0 ≤ q) s.heap H locs → lv_has ls 2 [(0, .ref (ad 10 0)), (1, .int (nI i))] → W p l e (headSpec wsX0_init rmX0_init).room s m (([.ref (ad 10 0)] : List Value).toArray) below meth c H locs (1 + 66 * i) (4 + 2395 * i) (MQ below (iQ (ad 10 0) 266 (HB D E ad)) ([.ref (ad 10 0)] : List Value).toArray s 265 9584 (fun q => ad 10 0 ≤ q)) (F0 m 14 ls []) := by
    intro d
    induction d with
    | zero =>
      intro i H locs ls hi hz hself harr hws hS hl
      obtain rfl : i = 4 := by omega
      refine lv_iload_n hx hb dX0_init_14 rfl (lv_at hl 1 rfl) ?_
      refine lv_iconst (v := (4 : Int32)) hx hb dX0_init_15 (by decide) ?_
      refine lv_icmp_ge (tgt := 38) hx hb dX0_init_16 (by decide) (fun _ => ?_) (fun z => absurd (by decide) z)
      refine lv_aload_n hx hb dX0_init_38 rfl (lv_at hl 0 rfl) ?_
      refine lv_iconst (v := (0 : Int32)) hx hb dX0_init_39 (by decide) ?_
      refine k_put (T := TX0) (C := RX0) (N := 2) (ci := 0) hx hb hts (fun _ h => List.mem_cons_of_mem _ (List.mem_append_left _ (List.mem_append_left _ (List.mem_append_left _ (List.mem_append_left _ (List.mem_append_right _ h)))))) tyX0 tyX0_ok nmX0 hown hK hS (Nat.le_refl _) hself gcl0 1 (by decide) (List.mem_of_getElem? (i := 8) rfl) rfl rfl rfl rfl (Nat.le_of_ble_eq_true rfl) dX0_init_40 (fun H3 locs e1 z1 o1 hS => ?_)
      replace hz := z1.trans hz
      replace harr := harr.kept (o1 _ (by omega))
      replace hself := e1
      have hws : ∀ t, t < 4 → SB D E ad (3 + t) H3 := fun t ht => (hws t ht).kept hy (fun q hq _ => o1 q (by have := hy1.2 t (by omega); omega))
      refine W.widen (k := 265) (n := 9584) (Nat.le_of_ble_eq_true rfl) (Nat.le_of_ble_eq_true rfl) ?_
      exact W.vret hx hb hr (fun t ht hW => ⟨⟨(), rfl, trivial, by show Array.size t.heap = _ ∧ _; rw [ht]; exact ⟨by omega, hself, harr.refs (fun t ht => (if_pos ht).trans (by show _ = some (ad 1 (nI (3 + t)).toNatClampNeg); rw [nI_clamp (by omega)])), hws⟩⟩, hS.F ht⟩) hS.2.2 dX0_init_43
    | succ d ih =>
      intro i H locs ls hi hz hself harr hws hS hl
      have hlt : i < 4 := by omega
      have hyi := hy1.2 i hlt
      refine lv_iload_n hx hb dX0_init_14 rfl (lv_at hl 1 rfl) ?_
      refine lv_iconst (v := (4 : Int32)) hx hb dX0_init_15 (by decide) ?_
      refine lv_icmp_ge (tgt := 38) hx hb dX0_init_16 (by decide) (fun z => absurd z (nI_ge (a := i) (b := 4) hlt (by omega))) (fun _ => ?_)
      refine lv_aload_n hx hb dX0_init_19 rfl (lv_at hl 0 rfl) ?_
      refine k_get (v := .ref (ad 11 0)) (T := TX0) (C := RX0) (N := 2) (ci := 0) hx hb hts (fun _ h => List.mem_cons_of_mem _ (List.mem_append_left _ (List.mem_append_left _ (List.mem_append_left _ (List.mem_append_left _ (List.mem_append_right _ h)))))) hown hK hself gcl0 0 (by decide) (List.mem_of_getElem? (i := 5) rfl) rfl rfl dX0_init_20 ?_
      refine lv_iload_n hx hb dX0_init_23 rfl (lv_at hl 1 rfl) ?_
      have hpre := hws
      have hh : Array.size H = ad 1 (3 + i) := by omega
      refine k_new (C := RX4) (T := TX4) (N := 7) (ci := 4) (fs := [.null, .null, .int 0, .int 0, .int 0, .int 0, .int 0]) hx hb hts (fun _ h => List.mem_cons_of_mem _ (List.mem_append_left _ (List.mem_append_left _ (List.mem_append_left _ (List.mem_append_right _ h))))) tyX4 tyX4_ok hown (List.mem_of_getElem? (i := 4) rfl) (List.mem_of_getElem? (i := 6) rfl) (List.mem_of_getElem? (i := 7) rfl) hK gcl4 (fun i hi => by obtain rfl | rfl | rfl | rfl | rfl | rfl | rfl := (by omega : i = 0 ∨ i = 1 ∨ i = 2 ∨ i = 3 ∨ i = 4 ∨ i = 5 ∨ i = 6) <;> rfl) (by show 1 + 66 * i + 1 ≤ 265; omega) (by show 4 + 2395 * i + 7 ≤ 9584; omega) hh dX0_init_24 (fun H4 e1 z1 o1 => ?_)
      have hS := kS_new hS hh z1 o1
      replace hself := hself.kept (o1 _ (by omega))
      replace harr := harr.kept (o1 _ (by omega))
      have hws := fun t ht => (hws t ht).kept hy (fun q _ hq => o1 q (by have := hy1.2 t (by omega); omega))
      have hnew := e1
      replace hz := z1
      clear z1 o1 e1 hh
      refine lv_dup hx hb dX0_init_27 rfl ?_
      refine va_callv (va_runI (As := []) (rest := [.ref (ad 1 (3 + i)), .int (nI i), .ref (ad 11 0)]) ⟨hx, hb, hml, hown, hts⟩ (iX4 l D E ad hy (3 + i) (by omega)) (cwI 0 hts gX0_init_X4_init rfl rfl rfl (hts _ (List.mem_of_getElem? (i := 7) rfl)) (hts _ (List.mem_of_getElem? (i := 9) rfl)) (hts _ (List.mem_of_getElem? (i := 10) rfl)) rfl (by decide +kernel) ⟨(Nat.le_of_ble_eq_true rfl), (Nat.le_of_ble_eq_true rfl)⟩) ⟨iPre.blind _, fun U hU hW => iPre.at hK hA4 hA6 hz hnew _ U hU hW⟩ rfl rfl hl.1 rfl (lv_room (Nat.le_of_ble_eq_true rfl)) dX0_init_28 ⟨(by show 1 + 66 * i + 1 + 65 ≤ 265; omega), (by show 4 + 2395 * i + 7 + 2388 ≤ 9584; omega)⟩) hS (fun q _ h => Nat.le_trans (by omega) h) (fun q h => Nat.le_trans (by omega) h) (fun u t H5 locs ht hvm _ hB hz1 hk1 hS => ?_)
      rw [ht] at hB
      obtain ⟨hz2, hB⟩ := hB
      have o1 : ∀ q, q < ad 1 (3 + i) → H5[q]? = H4[q]? := fun q hq => hk1 q (by omega) (Nat.not_le.mpr hq)
      replace hself := hself.kept (o1 _ (by omega))
      replace harr := harr.kept (o1 _ (by omega))
      have hws := fun t ht => (hws t ht).kept hy (fun q _ hq => o1 q (by have := hy1.2 t (by omega); omega))
      have hwi : SB D E ad (3 + i) H5 := hB
      replace hz := hz2
      clear hz2 hB o1 hz1 hnew
      refine k_astq (t0 := 3) (ci := 4) hx hb hK hS (show ad 10 0 ≤ ad 11 0 by omega) harr rfl (hwi.2.1) gcl4 hlt (by omega) dX0_init_31 (fun H6 locs e1 z1 o1 hS => ?_)
      have hself := hself.kept (o1 _ (by omega))
      have hwi := hwi.kept hy (fun q hq _ => o1 q (by omega))
      have hws := fun t ht => (hws t ht).kept hy (fun q hq _ => o1 q (by have := hy1.2 t (by omega); omega))
      have harr := e1.refs (g := fun t => if t < i + 1 then some (ad 1 (3 + t)) else none) (fun t _ => refs_step (fun t => ad 1 (3 + t)) i t)
      refine lv_iinc (v := (nI i + (1 : Int32))) (lv' := [(1, .int (nI i + (1 : Int32))), (0, .ref (ad 10 0))]) hx hb dX0_init_32 hl (k := 1) rfl rfl (by decide) rfl (fun ls hl => ?_)
      refine lv_goto (tgt := 14) hx hb dX0_init_35 (by decide) ?_
      rw [nI_add1] at hl
      have hz3 := z1.trans hz
      refine W.widen (k := 1 + 66 * (i + 1)) (n := 4 + 2395 * (i + 1)) (by omega) (by omega) ?_
      refine ih (i + 1) _ _ _ (by omega) (by omega) hself harr (fun t ht => ?_) hS (lv_sub hl [1, 0] rfl)
      rcases Nat.lt_or_ge t i with y | y
      · exact hws t y
      · obtain rfl : t = i := by omega
        exact hwi
  exact key 4 0 _ _ _ (by omega) (by omega) hself (harr.refs (fun t _ => by rw [if_neg (by omega)])) (fun t ht => absurd ht (by omega)) hS (lv_sub hl [1, 0] rfl)
