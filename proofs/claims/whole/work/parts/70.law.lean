/-! ===== LAYER 3: the law's body (printed by wip/whole/lawwalk.py) ===== -/
section LV
variable {p : Program} {l : Launch} {e : Env} {R : Room} {s : State} {m : MethodId} {args : Array Value} {below : List Frame} {meth : Method} {c : Code} {H : Heap} {locs : List Loc} {cells slots : Nat} {Q : State → Prop}
variable {cc : ByteArray} {pc nL n maxL index : Nat} {ls : Array Slot} {rest st As : List Value} {D : va_G} {A A0 : Nat → Prop} {E : Nat → ClassId} {ad : Nat → Nat → Nat} {L L2 : List (Nat × Nat)} {M M2 : gW} {H0 : Heap} {f k : Nat} {y : MethodName} {bytes : ByteArray} {ret : Option FieldType} {ws Ts : List Cond} {rm : Room} {own C : String}
/-- a call of one of two worlds: the other stays -/
theorem l_V {K : Int32 → gW → Prop} (S : CallFix p m c cc nL s args Ts own) (hK : va_K D vwCl (gT E) s) (hN : gNw s) (hP : va_P D vwCl (gL E ad L M) H) (hP2 : va_P D vwCl (gL E ad L2 M2) H) (hap : ∀ q ∈ L2, ¬ A (ad q.1 q.2)) (hS : va_S A0 H0 H locs) (hA0 : ∀ q, A q → A0 q) (hM : Met l y ws rm (va_Pc (.ref (ad f k) :: As) (gPre D E ad L M)) (gQi D E ad L A K) 0 0 A) (cw : CallW R s args own C index y bytes maxL ret ws rm 0 0 n) (hm : (f, k) ∈ L) {fs : List Value} {ci : Nat} {q : vw_C} (he : gC E ad f k (M f k) = .inr (ci, fs)) (hc : vwCl[ci]? = some q) (hq : q.1 = C) (hst : st = As.reverse ++ .ref (ad f k) :: rest) (hn : As.length = n) (hsize : ls.size = nL) (hW : (rest.map fun v => v.category).sum ≤ 8) (hf : cells ≤ R.cells ∧ slots ≤ R.slots) (hdg : decode cc pc = .ok (.invokevirtual index, 3))
    (kk : ∀ (r : Int32) (M' : gW) (H1 : Heap) (locs1 : List Loc), K r M' → va_P D vwCl (gL E ad L M') H1 → va_P D vwCl (gL E ad L2 M2) H1 → va_S A0 H0 H1 locs1 → W p l e R s m args below meth c H1 locs1 cells slots Q (F0 m (pc + 3) ls (.int r :: rest))) : W p l e R s m args below meth c H locs cells slots Q (F0 m pc ls st) := by
  subst hst
  obtain ⟨q0, -, h2⟩ := gL_get (E := E) (ad := ad) M hm
  rw [he] at h2
  refine va_calli (va_runV (As := As) (rest := rest) (b := ad f k) S hM cw ⟨gPre.blind _, by rw [← hq]; exact va_recv hK hP hc h2, fun U hU hW => gPre.at hK hN hP _ U hU hW⟩ rfl hn hsize rfl (lv_room hW) hdg hf) hS (fun q _ h => hA0 q h) (fun q h => hA0 q h) (fun r u t H1 locs1 ht _ hw hB _ hk1 hS1 => kk r u H1 locs1 hw ?_ (hP2.kept fun i x hx => ?_) hS1)
  · rw [← ht]; exact hB
  · refine hk1 x.1 (hP2 i x hx).lt ?_
    unfold gL at hx
    rw [List.getElem?_map] at hx
    cases h3 : L2[i]? with
    | none => rw [h3] at hx; cases hx
    | some q3 => rw [h3] at hx; cases hx; exact hap q3 (List.mem_of_getElem? h3)
end LV
def A1 (b0 : Nat) : Nat → Prop := fun q => b0 ≤ q ∧ q < b0 + 477
def A2 (b0 : Nat) : Nat → Prop := fun q => b0 + 477 ≤ q ∧ q < b0 + 491
theorem LX_A1 (b0 : Nat) : ∀ q ∈ LX, A1 b0 (adL b0 q.1 q.2) := fun q hq => by
  have h := LX_ofs.2 (ofs q) (List.mem_map.mpr ⟨q, hq, rfl⟩)
  rw [adL_ofs]
  have e : ofs (q.1, q.2) = ofs q := rfl
  rw [e]
  exact ⟨by omega, by omega⟩
theorem LM_A2 (b0 : Nat) : ∀ q ∈ LM, A2 b0 (adL b0 q.1 q.2) := fun q hq => by
  have h := LM_ofs.2 (ofs q) (List.mem_map.mpr ⟨q, hq, rfl⟩)
  rw [adL_ofs]
  have e : ofs (q.1, q.2) = ofs q := rfl
  rw [e]
  exact ⟨by omega, by omega⟩
theorem LX_F (E : Nat → ClassId) (b0 : Nat) : gF E (adL b0) LX (A1 b0) := gF_of LX_nodup LX_ofs.1 (LX_A1 b0)
theorem LM_F (E : Nat → ClassId) (b0 : Nat) : gF E (adL b0) LM (A2 b0) := gF_of LM_nodup LM_ofs.1 (LM_A2 b0)
theorem LM_ap (b0 : Nat) : ∀ q ∈ LM, ¬ A1 b0 (adL b0 q.1 q.2) := fun q hq h => by
  have := LM_A2 b0 q hq
  unfold A2 at this
  unfold A1 at h
  omega
theorem LX_ap (b0 : Nat) : ∀ q ∈ LX, ¬ A2 b0 (adL b0 q.1 q.2) := fun q hq h => by
  have := LX_A1 b0 q hq
  unfold A1 at this
  unfold A2 at h
  omega
set_option maxHeartbeats 4000000 in
set_option maxRecDepth 100000 in
theorem lc_write {p : Program} {e : Env} {s : State} {m : MethodId} {below : List Frame} {meth : Method} {c : Code} {b L : Nat} {xs : Nat → Int32} {D : va_G} {E : Nat → ClassId} (l : Launch) (hx : p.tables.exec = Jvm.exec) (hb : c.code = cL_law) (hml : c.maxLocals = 4) (hown : s.vm.findClass RL = some m.cls) (hts : ∀ w ∈ wsL_law, w.before #[Value.ref b] s = true) (hX : va_X b L xs s s.heap) (hbl : b < s.heap.size) (hK : va_K D vwCl (gT E) s) (hN : gNw s) {Q : State → Prop} {j : Nat} (hj : j + 4 ≤ L) (hL : L ≤ 2048) (hback : ∀ (M1 M2 : gW) (H : Heap) (locs : List Loc) (ls : Array Slot), INV M1 M2 → va_P D vwCl (gL E (adL s.heap.size) LX M1) H → va_P D vwCl (gL E (adL s.heap.size) LM M2) H → va_S (fun q => s.heap.size ≤ q) s.heap H locs → lv_has ls 4 [(0, .ref b), (1, .ref (adL s.heap.size 0 0)), (2, .ref (adL s.heap.size 21 0)), (3, .int (nI j))] → W p l e room_1 s m #[Value.ref b] below meth c H locs 600000 7302250 Q (F0 m 695 ls [])) {M1 M2 : gW} {H : Heap} {locs : List Loc} {ls : Array Slot} (hI : INV M1 M2) (hP1 : va_P D vwCl (gL E (adL s.heap.size) LX M1) H) (hP2 : va_P D vwCl (gL E (adL s.heap.size) LM M2) H) (hS : va_S (fun q => s.heap.size ≤ q) s.heap H locs) (hl : lv_has ls 4 [(0, .ref b), (1, .ref (adL s.heap.size 0 0)), (2, .ref (adL s.heap.size 21 0)), (3, .int (nI j))]) : W p l e room_1 s m #[Value.ref b] below meth c H locs 600000 7302250 Q (F0 m 132 ls []) := by
  have S : CallFix p m c cL_law 4 s #[Value.ref b] wsL_law RL := ⟨hx, hb, hml, hown, hts⟩
  have hbA : ¬ s.heap.size ≤ b := Nat.not_le.mpr hbl
  have i1 : vp_in (nI j + 1) L := by rw [nI_add1]; exact pk_in (j + 1) L (by omega)
  have i2 : vp_in (nI j + 2) L := by rw [show nI j + (2 : Int32) = nI (j + 2) from nI_add j 2]; exact pk_in (j + 2) L (by omega)
  have i3 : vp_in (nI j + 3) L := by rw [show nI j + (3 : Int32) = nI (j + 3) from nI_add j 3]; exact pk_in (j + 3) L (by omega)
  obtain ⟨r, S1, sn1, Sn1, h1, Hs1, t1, n1, hO1, hw1, hw2⟩ := j_write hI 
  refine lv_aload_n hx hb dL_law_132 rfl (lv_at hl 1 rfl) ?_
  refine l_V (As := []) (rest := []) (f := 0) (k := 0) (L2 := LM) S hK hN hP1 hP2 (LM_ap s.heap.size) hS (fun q z => z.1) (qX8_write l D E (adL s.heap.size) LX (A1 s.heap.size) (LX_F E s.heap.size) LX_gLx M1  _ hw1) (cwV 0 hts gL_law_X8_write rfl rfl rfl eX8_write ⟨(Nat.le_of_ble_eq_true rfl), (Nat.le_of_ble_eq_true rfl)⟩) (LX_gLx.h (f := 0) (by decide)) (gC0 _ _ _ _) gcl8 rfl rfl rfl hl.1 (Nat.le_of_ble_eq_true rfl) ⟨Nat.le_refl _, Nat.le_refl _⟩ dL_law_133 (fun r1 M1 H locs hr1 hP1 hP2 hS => ?_)
  refine lv_aload_n hx hb dL_law_136 rfl (lv_at hl 2 rfl) ?_
  refine l_V (As := []) (rest := [.int r1]) (f := 21) (k := 0) (L2 := LX) S hK hN hP2 hP1 (LX_ap s.heap.size) hS (fun q z => Nat.le_trans (Nat.le_add_right _ _) z.1) (qX9_write l D E (adL s.heap.size) LM (A2 s.heap.size) (LM_F E s.heap.size) LM_gLm M2  _ hw2) (cwV 0 hts gL_law_X9_write rfl rfl rfl eX9_write ⟨(Nat.le_of_ble_eq_true rfl), (Nat.le_of_ble_eq_true rfl)⟩) (LM_gLm.h (f := 21) (by decide)) (gC21 _ _ _ _) gcl9 rfl rfl rfl hl.1 (Nat.le_of_ble_eq_true rfl) ⟨Nat.le_refl _, Nat.le_refl _⟩ dL_law_137 (fun r2 M2 H locs hr2 hP2 hP1 hS => ?_)
  exact lv_icmp_eq (tgt := 695) hx hb dL_law_140 (by decide) (fun _ => hback M1 M2 H locs ls ⟨S1, sn1, Sn1, h1, Hs1, t1, n1, hO1, hr1.2, hr2.2⟩ hP1 hP2 hS hl) (fun z => absurd (hr1.1.trans hr2.1.symm) z)
set_option maxHeartbeats 4000000 in
set_option maxRecDepth 100000 in
theorem lc_pass {p : Program} {e : Env} {s : State} {m : MethodId} {below : List Frame} {meth : Method} {c : Code} {b L : Nat} {xs : Nat → Int32} {D : va_G} {E : Nat → ClassId} (l : Launch) (hx : p.tables.exec = Jvm.exec) (hb : c.code = cL_law) (hml : c.maxLocals = 4) (hown : s.vm.findClass RL = some m.cls) (hts : ∀ w ∈ wsL_law, w.before #[Value.ref b] s = true) (hX : va_X b L xs s s.heap) (hbl : b < s.heap.size) (hK : va_K D vwCl (gT E) s) (hN : gNw s) {Q : State → Prop} {j : Nat} (hj : j + 4 ≤ L) (hL : L ≤ 2048) (hback : ∀ (M1 M2 : gW) (H : Heap) (locs : List Loc) (ls : Array Slot), INV M1 M2 → va_P D vwCl (gL E (adL s.heap.size) LX M1) H → va_P D vwCl (gL E (adL s.heap.size) LM M2) H → va_S (fun q => s.heap.size ≤ q) s.heap H locs → lv_has ls 4 [(0, .ref b), (1, .ref (adL s.heap.size 0 0)), (2, .ref (adL s.heap.size 21 0)), (3, .int (nI j))] → W p l e room_1 s m #[Value.ref b] below meth c H locs 600000 7302250 Q (F0 m 695 ls [])) {M1 M2 : gW} {H : Heap} {locs : List Loc} {ls : Array Slot} (hI : INV M1 M2) (hP1 : va_P D vwCl (gL E (adL s.heap.size) LX M1) H) (hP2 : va_P D vwCl (gL E (adL s.heap.size) LM M2) H) (hS : va_S (fun q => s.heap.size ≤ q) s.heap H locs) (hl : lv_has ls 4 [(0, .ref b), (1, .ref (adL s.heap.size 0 0)), (2, .ref (adL s.heap.size 21 0)), (3, .int (nI j))]) : W p l e room_1 s m #[Value.ref b] below meth c H locs 600000 7302250 Q (F0 m 145 ls []) := by
  have S : CallFix p m c cL_law 4 s #[Value.ref b] wsL_law RL := ⟨hx, hb, hml, hown, hts⟩
  have hbA : ¬ s.heap.size ≤ b := Nat.not_le.mpr hbl
  have i1 : vp_in (nI j + 1) L := by rw [nI_add1]; exact pk_in (j + 1) L (by omega)
  have i2 : vp_in (nI j + 2) L := by rw [show nI j + (2 : Int32) = nI (j + 2) from nI_add j 2]; exact pk_in (j + 2) L (by omega)
  have i3 : vp_in (nI j + 3) L := by rw [show nI j + (3 : Int32) = nI (j + 3) from nI_add j 3]; exact pk_in (j + 3) L (by omega)
  obtain ⟨r, S1, sn1, Sn1, h1, Hs1, t1, n1, hO1, hw1, hw2⟩ := j_pass hI ((xs (nI j + (1 : Int32)).toNatClampNeg))
  refine lv_aload_n hx hb dL_law_145 rfl (lv_at hl 1 rfl) ?_
  refine lv_aload_n hx hb dL_law_146 rfl (lv_at hl 0 rfl) ?_
  refine lv_iload_n hx hb dL_law_147 rfl (lv_at hl 3 rfl) ?_
  refine lv_iconst (v := (1 : Int32)) hx hb dL_law_148 (by decide) ?_
  refine lv_iadd hx hb dL_law_149 ?_
  refine va_sld hx hb hX hbl hbA hS i1 dL_law_150 ?_
  refine l_V (As := [.int ((xs (nI j + (1 : Int32)).toNatClampNeg))]) (rest := []) (f := 0) (k := 0) (L2 := LM) S hK hN hP1 hP2 (LM_ap s.heap.size) hS (fun q z => z.1) (qX8_pass l D E (adL s.heap.size) LX (A1 s.heap.size) (LX_F E s.heap.size) LX_gLx M1 ((xs (nI j + (1 : Int32)).toNatClampNeg)) _ hw1) (cwV 1 hts gL_law_X8_pass rfl rfl rfl eX8_pass ⟨(Nat.le_of_ble_eq_true rfl), (Nat.le_of_ble_eq_true rfl)⟩) (LX_gLx.h (f := 0) (by decide)) (gC0 _ _ _ _) gcl8 rfl rfl rfl hl.1 (Nat.le_of_ble_eq_true rfl) ⟨Nat.le_refl _, Nat.le_refl _⟩ dL_law_151 (fun r1 M1 H locs hr1 hP1 hP2 hS => ?_)
  refine lv_aload_n hx hb dL_law_154 rfl (lv_at hl 2 rfl) ?_
  refine lv_aload_n hx hb dL_law_155 rfl (lv_at hl 0 rfl) ?_
  refine lv_iload_n hx hb dL_law_156 rfl (lv_at hl 3 rfl) ?_
  refine lv_iconst (v := (1 : Int32)) hx hb dL_law_157 (by decide) ?_
  refine lv_iadd hx hb dL_law_158 ?_
  refine va_sld hx hb hX hbl hbA hS i1 dL_law_159 ?_
  refine l_V (As := [.int ((xs (nI j + (1 : Int32)).toNatClampNeg))]) (rest := [.int r1]) (f := 21) (k := 0) (L2 := LX) S hK hN hP2 hP1 (LX_ap s.heap.size) hS (fun q z => Nat.le_trans (Nat.le_add_right _ _) z.1) (qX9_pass l D E (adL s.heap.size) LM (A2 s.heap.size) (LM_F E s.heap.size) LM_gLm M2 ((xs (nI j + (1 : Int32)).toNatClampNeg)) _ hw2) (cwV 1 hts gL_law_X9_pass rfl rfl rfl eX9_pass ⟨(Nat.le_of_ble_eq_true rfl), (Nat.le_of_ble_eq_true rfl)⟩) (LM_gLm.h (f := 21) (by decide)) (gC21 _ _ _ _) gcl9 rfl rfl rfl hl.1 (Nat.le_of_ble_eq_true rfl) ⟨Nat.le_refl _, Nat.le_refl _⟩ dL_law_160 (fun r2 M2 H locs hr2 hP2 hP1 hS => ?_)
  exact lv_icmp_eq (tgt := 695) hx hb dL_law_163 (by decide) (fun _ => hback M1 M2 H locs ls ⟨S1, sn1, Sn1, h1, Hs1, t1, n1, hO1, hr1.2, hr2.2⟩ hP1 hP2 hS hl) (fun z => absurd (hr1.1.trans hr2.1.symm) z)
set_option maxHeartbeats 4000000 in
set_option maxRecDepth 100000 in
theorem lc_setUntried {p : Program} {e : Env} {s : State} {m : MethodId} {below : List Frame} {meth : Method} {c : Code} {b L : Nat} {xs : Nat → Int32} {D : va_G} {E : Nat → ClassId} (l : Launch) (hx : p.tables.exec = Jvm.exec) (hb : c.code = cL_law) (hml : c.maxLocals = 4) (hown : s.vm.findClass RL = some m.cls) (hts : ∀ w ∈ wsL_law, w.before #[Value.ref b] s = true) (hX : va_X b L xs s s.heap) (hbl : b < s.heap.size) (hK : va_K D vwCl (gT E) s) (hN : gNw s) {Q : State → Prop} {j : Nat} (hj : j + 4 ≤ L) (hL : L ≤ 2048) (hback : ∀ (M1 M2 : gW) (H : Heap) (locs : List Loc) (ls : Array Slot), INV M1 M2 → va_P D vwCl (gL E (adL s.heap.size) LX M1) H → va_P D vwCl (gL E (adL s.heap.size) LM M2) H → va_S (fun q => s.heap.size ≤ q) s.heap H locs → lv_has ls 4 [(0, .ref b), (1, .ref (adL s.heap.size 0 0)), (2, .ref (adL s.heap.size 21 0)), (3, .int (nI j))] → W p l e room_1 s m #[Value.ref b] below meth c H locs 600000 7302250 Q (F0 m 695 ls [])) {M1 M2 : gW} {H : Heap} {locs : List Loc} {ls : Array Slot} (hI : INV M1 M2) (hP1 : va_P D vwCl (gL E (adL s.heap.size) LX M1) H) (hP2 : va_P D vwCl (gL E (adL s.heap.size) LM M2) H) (hS : va_S (fun q => s.heap.size ≤ q) s.heap H locs) (hl : lv_has ls 4 [(0, .ref b), (1, .ref (adL s.heap.size 0 0)), (2, .ref (adL s.heap.size 21 0)), (3, .int (nI j))]) : W p l e room_1 s m #[Value.ref b] below meth c H locs 600000 7302250 Q (F0 m 168 ls []) := by
  have S : CallFix p m c cL_law 4 s #[Value.ref b] wsL_law RL := ⟨hx, hb, hml, hown, hts⟩
  have hbA : ¬ s.heap.size ≤ b := Nat.not_le.mpr hbl
  have i1 : vp_in (nI j + 1) L := by rw [nI_add1]; exact pk_in (j + 1) L (by omega)
  have i2 : vp_in (nI j + 2) L := by rw [show nI j + (2 : Int32) = nI (j + 2) from nI_add j 2]; exact pk_in (j + 2) L (by omega)
  have i3 : vp_in (nI j + 3) L := by rw [show nI j + (3 : Int32) = nI (j + 3) from nI_add j 3]; exact pk_in (j + 3) L (by omega)
  obtain ⟨r, S1, sn1, Sn1, h1, Hs1, t1, n1, hO1, hw1, hw2⟩ := j_setUntried hI ((xs (nI j + (1 : Int32)).toNatClampNeg))
  refine lv_aload_n hx hb dL_law_168 rfl (lv_at hl 1 rfl) ?_
  refine lv_aload_n hx hb dL_law_169 rfl (lv_at hl 0 rfl) ?_
  refine lv_iload_n hx hb dL_law_170 rfl (lv_at hl 3 rfl) ?_
  refine lv_iconst (v := (1 : Int32)) hx hb dL_law_171 (by decide) ?_
  refine lv_iadd hx hb dL_law_172 ?_
  refine va_sld hx hb hX hbl hbA hS i1 dL_law_173 ?_
  refine l_V (As := [.int ((xs (nI j + (1 : Int32)).toNatClampNeg))]) (rest := []) (f := 0) (k := 0) (L2 := LM) S hK hN hP1 hP2 (LM_ap s.heap.size) hS (fun q z => z.1) (qX8_setUntried l D E (adL s.heap.size) LX (A1 s.heap.size) (LX_F E s.heap.size) LX_gLx M1 ((xs (nI j + (1 : Int32)).toNatClampNeg)) _ hw1) (cwV 1 hts gL_law_X8_setUntried rfl rfl rfl eX8_setUntried ⟨(Nat.le_of_ble_eq_true rfl), (Nat.le_of_ble_eq_true rfl)⟩) (LX_gLx.h (f := 0) (by decide)) (gC0 _ _ _ _) gcl8 rfl rfl rfl hl.1 (Nat.le_of_ble_eq_true rfl) ⟨Nat.le_refl _, Nat.le_refl _⟩ dL_law_174 (fun r1 M1 H locs hr1 hP1 hP2 hS => ?_)
  refine lv_aload_n hx hb dL_law_177 rfl (lv_at hl 2 rfl) ?_
  refine lv_aload_n hx hb dL_law_178 rfl (lv_at hl 0 rfl) ?_
  refine lv_iload_n hx hb dL_law_179 rfl (lv_at hl 3 rfl) ?_
  refine lv_iconst (v := (1 : Int32)) hx hb dL_law_180 (by decide) ?_
  refine lv_iadd hx hb dL_law_181 ?_
  refine va_sld hx hb hX hbl hbA hS i1 dL_law_182 ?_
  refine l_V (As := [.int ((xs (nI j + (1 : Int32)).toNatClampNeg))]) (rest := [.int r1]) (f := 21) (k := 0) (L2 := LX) S hK hN hP2 hP1 (LX_ap s.heap.size) hS (fun q z => Nat.le_trans (Nat.le_add_right _ _) z.1) (qX9_setUntried l D E (adL s.heap.size) LM (A2 s.heap.size) (LM_F E s.heap.size) LM_gLm M2 ((xs (nI j + (1 : Int32)).toNatClampNeg)) _ hw2) (cwV 1 hts gL_law_X9_setUntried rfl rfl rfl eX9_setUntried ⟨(Nat.le_of_ble_eq_true rfl), (Nat.le_of_ble_eq_true rfl)⟩) (LM_gLm.h (f := 21) (by decide)) (gC21 _ _ _ _) gcl9 rfl rfl rfl hl.1 (Nat.le_of_ble_eq_true rfl) ⟨Nat.le_refl _, Nat.le_refl _⟩ dL_law_183 (fun r2 M2 H locs hr2 hP2 hP1 hS => ?_)
  exact lv_icmp_eq (tgt := 695) hx hb dL_law_186 (by decide) (fun _ => hback M1 M2 H locs ls ⟨S1, sn1, Sn1, h1, Hs1, t1, n1, hO1, hr1.2, hr2.2⟩ hP1 hP2 hS hl) (fun z => absurd (hr1.1.trans hr2.1.symm) z)
set_option maxHeartbeats 4000000 in
set_option maxRecDepth 100000 in
theorem lc_addWords {p : Program} {e : Env} {s : State} {m : MethodId} {below : List Frame} {meth : Method} {c : Code} {b L : Nat} {xs : Nat → Int32} {D : va_G} {E : Nat → ClassId} (l : Launch) (hx : p.tables.exec = Jvm.exec) (hb : c.code = cL_law) (hml : c.maxLocals = 4) (hown : s.vm.findClass RL = some m.cls) (hts : ∀ w ∈ wsL_law, w.before #[Value.ref b] s = true) (hX : va_X b L xs s s.heap) (hbl : b < s.heap.size) (hK : va_K D vwCl (gT E) s) (hN : gNw s) {Q : State → Prop} {j : Nat} (hj : j + 4 ≤ L) (hL : L ≤ 2048) (hback : ∀ (M1 M2 : gW) (H : Heap) (locs : List Loc) (ls : Array Slot), INV M1 M2 → va_P D vwCl (gL E (adL s.heap.size) LX M1) H → va_P D vwCl (gL E (adL s.heap.size) LM M2) H → va_S (fun q => s.heap.size ≤ q) s.heap H locs → lv_has ls 4 [(0, .ref b), (1, .ref (adL s.heap.size 0 0)), (2, .ref (adL s.heap.size 21 0)), (3, .int (nI j))] → W p l e room_1 s m #[Value.ref b] below meth c H locs 600000 7302250 Q (F0 m 695 ls [])) {M1 M2 : gW} {H : Heap} {locs : List Loc} {ls : Array Slot} (hI : INV M1 M2) (hP1 : va_P D vwCl (gL E (adL s.heap.size) LX M1) H) (hP2 : va_P D vwCl (gL E (adL s.heap.size) LM M2) H) (hS : va_S (fun q => s.heap.size ≤ q) s.heap H locs) (hl : lv_has ls 4 [(0, .ref b), (1, .ref (adL s.heap.size 0 0)), (2, .ref (adL s.heap.size 21 0)), (3, .int (nI j))]) : W p l e room_1 s m #[Value.ref b] below meth c H locs 600000 7302250 Q (F0 m 191 ls []) := by
  have S : CallFix p m c cL_law 4 s #[Value.ref b] wsL_law RL := ⟨hx, hb, hml, hown, hts⟩
  have hbA : ¬ s.heap.size ≤ b := Nat.not_le.mpr hbl
  have i1 : vp_in (nI j + 1) L := by rw [nI_add1]; exact pk_in (j + 1) L (by omega)
  have i2 : vp_in (nI j + 2) L := by rw [show nI j + (2 : Int32) = nI (j + 2) from nI_add j 2]; exact pk_in (j + 2) L (by omega)
  have i3 : vp_in (nI j + 3) L := by rw [show nI j + (3 : Int32) = nI (j + 3) from nI_add j 3]; exact pk_in (j + 3) L (by omega)
  obtain ⟨r, S1, sn1, Sn1, h1, Hs1, t1, n1, hO1, hw1, hw2⟩ := j_addWords hI 
  refine lv_aload_n hx hb dL_law_191 rfl (lv_at hl 1 rfl) ?_
  refine l_V (As := []) (rest := []) (f := 0) (k := 0) (L2 := LM) S hK hN hP1 hP2 (LM_ap s.heap.size) hS (fun q z => z.1) (qX8_addWords l D E (adL s.heap.size) LX (A1 s.heap.size) (LX_F E s.heap.size) LX_gLx M1  _ hw1) (cwV 0 hts gL_law_X8_addWords rfl rfl rfl eX8_addWords ⟨(Nat.le_of_ble_eq_true rfl), (Nat.le_of_ble_eq_true rfl)⟩) (LX_gLx.h (f := 0) (by decide)) (gC0 _ _ _ _) gcl8 rfl rfl rfl hl.1 (Nat.le_of_ble_eq_true rfl) ⟨Nat.le_refl _, Nat.le_refl _⟩ dL_law_192 (fun r1 M1 H locs hr1 hP1 hP2 hS => ?_)
  refine lv_aload_n hx hb dL_law_195 rfl (lv_at hl 2 rfl) ?_
  refine l_V (As := []) (rest := [.int r1]) (f := 21) (k := 0) (L2 := LX) S hK hN hP2 hP1 (LX_ap s.heap.size) hS (fun q z => Nat.le_trans (Nat.le_add_right _ _) z.1) (qX9_addWords l D E (adL s.heap.size) LM (A2 s.heap.size) (LM_F E s.heap.size) LM_gLm M2  _ hw2) (cwV 0 hts gL_law_X9_addWords rfl rfl rfl eX9_addWords ⟨(Nat.le_of_ble_eq_true rfl), (Nat.le_of_ble_eq_true rfl)⟩) (LM_gLm.h (f := 21) (by decide)) (gC21 _ _ _ _) gcl9 rfl rfl rfl hl.1 (Nat.le_of_ble_eq_true rfl) ⟨Nat.le_refl _, Nat.le_refl _⟩ dL_law_196 (fun r2 M2 H locs hr2 hP2 hP1 hS => ?_)
  exact lv_icmp_eq (tgt := 695) hx hb dL_law_199 (by decide) (fun _ => hback M1 M2 H locs ls ⟨S1, sn1, Sn1, h1, Hs1, t1, n1, hO1, hr1.2, hr2.2⟩ hP1 hP2 hS hl) (fun z => absurd (hr1.1.trans hr2.1.symm) z)
set_option maxHeartbeats 4000000 in
set_option maxRecDepth 100000 in
theorem lc_removeWord {p : Program} {e : Env} {s : State} {m : MethodId} {below : List Frame} {meth : Method} {c : Code} {b L : Nat} {xs : Nat → Int32} {D : va_G} {E : Nat → ClassId} (l : Launch) (hx : p.tables.exec = Jvm.exec) (hb : c.code = cL_law) (hml : c.maxLocals = 4) (hown : s.vm.findClass RL = some m.cls) (hts : ∀ w ∈ wsL_law, w.before #[Value.ref b] s = true) (hX : va_X b L xs s s.heap) (hbl : b < s.heap.size) (hK : va_K D vwCl (gT E) s) (hN : gNw s) {Q : State → Prop} {j : Nat} (hj : j + 4 ≤ L) (hL : L ≤ 2048) (hback : ∀ (M1 M2 : gW) (H : Heap) (locs : List Loc) (ls : Array Slot), INV M1 M2 → va_P D vwCl (gL E (adL s.heap.size) LX M1) H → va_P D vwCl (gL E (adL s.heap.size) LM M2) H → va_S (fun q => s.heap.size ≤ q) s.heap H locs → lv_has ls 4 [(0, .ref b), (1, .ref (adL s.heap.size 0 0)), (2, .ref (adL s.heap.size 21 0)), (3, .int (nI j))] → W p l e room_1 s m #[Value.ref b] below meth c H locs 600000 7302250 Q (F0 m 695 ls [])) {M1 M2 : gW} {H : Heap} {locs : List Loc} {ls : Array Slot} (hI : INV M1 M2) (hP1 : va_P D vwCl (gL E (adL s.heap.size) LX M1) H) (hP2 : va_P D vwCl (gL E (adL s.heap.size) LM M2) H) (hS : va_S (fun q => s.heap.size ≤ q) s.heap H locs) (hl : lv_has ls 4 [(0, .ref b), (1, .ref (adL s.heap.size 0 0)), (2, .ref (adL s.heap.size 21 0)), (3, .int (nI j))]) : W p l e room_1 s m #[Value.ref b] below meth c H locs 600000 7302250 Q (F0 m 204 ls []) := by
  have S : CallFix p m c cL_law 4 s #[Value.ref b] wsL_law RL := ⟨hx, hb, hml, hown, hts⟩
  have hbA : ¬ s.heap.size ≤ b := Nat.not_le.mpr hbl
  have i1 : vp_in (nI j + 1) L := by rw [nI_add1]; exact pk_in (j + 1) L (by omega)
  have i2 : vp_in (nI j + 2) L := by rw [show nI j + (2 : Int32) = nI (j + 2) from nI_add j 2]; exact pk_in (j + 2) L (by omega)
  have i3 : vp_in (nI j + 3) L := by rw [show nI j + (3 : Int32) = nI (j + 3) from nI_add j 3]; exact pk_in (j + 3) L (by omega)
  obtain ⟨r, S1, sn1, Sn1, h1, Hs1, t1, n1, hO1, hw1, hw2⟩ := j_removeWord hI ((xs (nI j + (1 : Int32)).toNatClampNeg))
  refine lv_aload_n hx hb dL_law_204 rfl (lv_at hl 1 rfl) ?_
  refine lv_aload_n hx hb dL_law_205 rfl (lv_at hl 0 rfl) ?_
  refine lv_iload_n hx hb dL_law_206 rfl (lv_at hl 3 rfl) ?_
  refine lv_iconst (v := (1 : Int32)) hx hb dL_law_207 (by decide) ?_
  refine lv_iadd hx hb dL_law_208 ?_
  refine va_sld hx hb hX hbl hbA hS i1 dL_law_209 ?_
  refine l_V (As := [.int ((xs (nI j + (1 : Int32)).toNatClampNeg))]) (rest := []) (f := 0) (k := 0) (L2 := LM) S hK hN hP1 hP2 (LM_ap s.heap.size) hS (fun q z => z.1) (qX8_removeWord l D E (adL s.heap.size) LX (A1 s.heap.size) (LX_F E s.heap.size) LX_gLx M1 ((xs (nI j + (1 : Int32)).toNatClampNeg)) _ hw1) (cwV 1 hts gL_law_X8_removeWord rfl rfl rfl eX8_removeWord ⟨(Nat.le_of_ble_eq_true rfl), (Nat.le_of_ble_eq_true rfl)⟩) (LX_gLx.h (f := 0) (by decide)) (gC0 _ _ _ _) gcl8 rfl rfl rfl hl.1 (Nat.le_of_ble_eq_true rfl) ⟨Nat.le_refl _, Nat.le_refl _⟩ dL_law_210 (fun r1 M1 H locs hr1 hP1 hP2 hS => ?_)
  refine lv_aload_n hx hb dL_law_213 rfl (lv_at hl 2 rfl) ?_
  refine lv_aload_n hx hb dL_law_214 rfl (lv_at hl 0 rfl) ?_
  refine lv_iload_n hx hb dL_law_215 rfl (lv_at hl 3 rfl) ?_
  refine lv_iconst (v := (1 : Int32)) hx hb dL_law_216 (by decide) ?_
  refine lv_iadd hx hb dL_law_217 ?_
  refine va_sld hx hb hX hbl hbA hS i1 dL_law_218 ?_
  refine l_V (As := [.int ((xs (nI j + (1 : Int32)).toNatClampNeg))]) (rest := [.int r1]) (f := 21) (k := 0) (L2 := LX) S hK hN hP2 hP1 (LX_ap s.heap.size) hS (fun q z => Nat.le_trans (Nat.le_add_right _ _) z.1) (qX9_removeWord l D E (adL s.heap.size) LM (A2 s.heap.size) (LM_F E s.heap.size) LM_gLm M2 ((xs (nI j + (1 : Int32)).toNatClampNeg)) _ hw2) (cwV 1 hts gL_law_X9_removeWord rfl rfl rfl eX9_removeWord ⟨(Nat.le_of_ble_eq_true rfl), (Nat.le_of_ble_eq_true rfl)⟩) (LM_gLm.h (f := 21) (by decide)) (gC21 _ _ _ _) gcl9 rfl rfl rfl hl.1 (Nat.le_of_ble_eq_true rfl) ⟨Nat.le_refl _, Nat.le_refl _⟩ dL_law_219 (fun r2 M2 H locs hr2 hP2 hP1 hS => ?_)
  exact lv_icmp_eq (tgt := 695) hx hb dL_law_222 (by decide) (fun _ => hback M1 M2 H locs ls ⟨S1, sn1, Sn1, h1, Hs1, t1, n1, hO1, hr1.2, hr2.2⟩ hP1 hP2 hS hl) (fun z => absurd (hr1.1.trans hr2.1.symm) z)
set_option maxHeartbeats 4000000 in
set_option maxRecDepth 100000 in
theorem lc_doSheet {p : Program} {e : Env} {s : State} {m : MethodId} {below : List Frame} {meth : Method} {c : Code} {b L : Nat} {xs : Nat → Int32} {D : va_G} {E : Nat → ClassId} (l : Launch) (hx : p.tables.exec = Jvm.exec) (hb : c.code = cL_law) (hml : c.maxLocals = 4) (hown : s.vm.findClass RL = some m.cls) (hts : ∀ w ∈ wsL_law, w.before #[Value.ref b] s = true) (hX : va_X b L xs s s.heap) (hbl : b < s.heap.size) (hK : va_K D vwCl (gT E) s) (hN : gNw s) {Q : State → Prop} {j : Nat} (hj : j + 4 ≤ L) (hL : L ≤ 2048) (hback : ∀ (M1 M2 : gW) (H : Heap) (locs : List Loc) (ls : Array Slot), INV M1 M2 → va_P D vwCl (gL E (adL s.heap.size) LX M1) H → va_P D vwCl (gL E (adL s.heap.size) LM M2) H → va_S (fun q => s.heap.size ≤ q) s.heap H locs → lv_has ls 4 [(0, .ref b), (1, .ref (adL s.heap.size 0 0)), (2, .ref (adL s.heap.size 21 0)), (3, .int (nI j))] → W p l e room_1 s m #[Value.ref b] below meth c H locs 600000 7302250 Q (F0 m 695 ls [])) {M1 M2 : gW} {H : Heap} {locs : List Loc} {ls : Array Slot} (hI : INV M1 M2) (hP1 : va_P D vwCl (gL E (adL s.heap.size) LX M1) H) (hP2 : va_P D vwCl (gL E (adL s.heap.size) LM M2) H) (hS : va_S (fun q => s.heap.size ≤ q) s.heap H locs) (hl : lv_has ls 4 [(0, .ref b), (1, .ref (adL s.heap.size 0 0)), (2, .ref (adL s.heap.size 21 0)), (3, .int (nI j))]) : W p l e room_1 s m #[Value.ref b] below meth c H locs 600000 7302250 Q (F0 m 227 ls []) := by
  have S : CallFix p m c cL_law 4 s #[Value.ref b] wsL_law RL := ⟨hx, hb, hml, hown, hts⟩
  have hbA : ¬ s.heap.size ≤ b := Nat.not_le.mpr hbl
  have i1 : vp_in (nI j + 1) L := by rw [nI_add1]; exact pk_in (j + 1) L (by omega)
  have i2 : vp_in (nI j + 2) L := by rw [show nI j + (2 : Int32) = nI (j + 2) from nI_add j 2]; exact pk_in (j + 2) L (by omega)
  have i3 : vp_in (nI j + 3) L := by rw [show nI j + (3 : Int32) = nI (j + 3) from nI_add j 3]; exact pk_in (j + 3) L (by omega)
  obtain ⟨r, S1, sn1, Sn1, h1, Hs1, t1, n1, hO1, hw1, hw2⟩ := j_doSheet hI ((xs (nI j + (1 : Int32)).toNatClampNeg))
  refine lv_aload_n hx hb dL_law_227 rfl (lv_at hl 1 rfl) ?_
  refine lv_aload_n hx hb dL_law_228 rfl (lv_at hl 0 rfl) ?_
  refine lv_iload_n hx hb dL_law_229 rfl (lv_at hl 3 rfl) ?_
  refine lv_iconst (v := (1 : Int32)) hx hb dL_law_230 (by decide) ?_
  refine lv_iadd hx hb dL_law_231 ?_
  refine va_sld hx hb hX hbl hbA hS i1 dL_law_232 ?_
  refine l_V (As := [.int ((xs (nI j + (1 : Int32)).toNatClampNeg))]) (rest := []) (f := 0) (k := 0) (L2 := LM) S hK hN hP1 hP2 (LM_ap s.heap.size) hS (fun q z => z.1) (qX8_doSheet l D E (adL s.heap.size) LX (A1 s.heap.size) (LX_F E s.heap.size) LX_gLx M1 ((xs (nI j + (1 : Int32)).toNatClampNeg)) _ hw1) (cwV 1 hts gL_law_X8_doSheet rfl rfl rfl eX8_doSheet ⟨(Nat.le_of_ble_eq_true rfl), (Nat.le_of_ble_eq_true rfl)⟩) (LX_gLx.h (f := 0) (by decide)) (gC0 _ _ _ _) gcl8 rfl rfl rfl hl.1 (Nat.le_of_ble_eq_true rfl) ⟨Nat.le_refl _, Nat.le_refl _⟩ dL_law_233 (fun r1 M1 H locs hr1 hP1 hP2 hS => ?_)
  refine lv_aload_n hx hb dL_law_236 rfl (lv_at hl 2 rfl) ?_
  refine lv_aload_n hx hb dL_law_237 rfl (lv_at hl 0 rfl) ?_
  refine lv_iload_n hx hb dL_law_238 rfl (lv_at hl 3 rfl) ?_
  refine lv_iconst (v := (1 : Int32)) hx hb dL_law_239 (by decide) ?_
  refine lv_iadd hx hb dL_law_240 ?_
  refine va_sld hx hb hX hbl hbA hS i1 dL_law_241 ?_
  refine l_V (As := [.int ((xs (nI j + (1 : Int32)).toNatClampNeg))]) (rest := [.int r1]) (f := 21) (k := 0) (L2 := LX) S hK hN hP2 hP1 (LX_ap s.heap.size) hS (fun q z => Nat.le_trans (Nat.le_add_right _ _) z.1) (qX9_doSheet l D E (adL s.heap.size) LM (A2 s.heap.size) (LM_F E s.heap.size) LM_gLm M2 ((xs (nI j + (1 : Int32)).toNatClampNeg)) _ hw2) (cwV 1 hts gL_law_X9_doSheet rfl rfl rfl eX9_doSheet ⟨(Nat.le_of_ble_eq_true rfl), (Nat.le_of_ble_eq_true rfl)⟩) (LM_gLm.h (f := 21) (by decide)) (gC21 _ _ _ _) gcl9 rfl rfl rfl hl.1 (Nat.le_of_ble_eq_true rfl) ⟨Nat.le_refl _, Nat.le_refl _⟩ dL_law_242 (fun r2 M2 H locs hr2 hP2 hP1 hS => ?_)
  exact lv_icmp_eq (tgt := 695) hx hb dL_law_245 (by decide) (fun _ => hback M1 M2 H locs ls ⟨S1, sn1, Sn1, h1, Hs1, t1, n1, hO1, hr1.2, hr2.2⟩ hP1 hP2 hS hl) (fun z => absurd (hr1.1.trans hr2.1.symm) z)
set_option maxHeartbeats 4000000 in
set_option maxRecDepth 100000 in
theorem lc_type {p : Program} {e : Env} {s : State} {m : MethodId} {below : List Frame} {meth : Method} {c : Code} {b L : Nat} {xs : Nat → Int32} {D : va_G} {E : Nat → ClassId} (l : Launch) (hx : p.tables.exec = Jvm.exec) (hb : c.code = cL_law) (hml : c.maxLocals = 4) (hown : s.vm.findClass RL = some m.cls) (hts : ∀ w ∈ wsL_law, w.before #[Value.ref b] s = true) (hX : va_X b L xs s s.heap) (hbl : b < s.heap.size) (hK : va_K D vwCl (gT E) s) (hN : gNw s) {Q : State → Prop} {j : Nat} (hj : j + 4 ≤ L) (hL : L ≤ 2048) (hback : ∀ (M1 M2 : gW) (H : Heap) (locs : List Loc) (ls : Array Slot), INV M1 M2 → va_P D vwCl (gL E (adL s.heap.size) LX M1) H → va_P D vwCl (gL E (adL s.heap.size) LM M2) H → va_S (fun q => s.heap.size ≤ q) s.heap H locs → lv_has ls 4 [(0, .ref b), (1, .ref (adL s.heap.size 0 0)), (2, .ref (adL s.heap.size 21 0)), (3, .int (nI j))] → W p l e room_1 s m #[Value.ref b] below meth c H locs 600000 7302250 Q (F0 m 695 ls [])) {M1 M2 : gW} {H : Heap} {locs : List Loc} {ls : Array Slot} (hI : INV M1 M2) (hP1 : va_P D vwCl (gL E (adL s.heap.size) LX M1) H) (hP2 : va_P D vwCl (gL E (adL s.heap.size) LM M2) H) (hS : va_S (fun q => s.heap.size ≤ q) s.heap H locs) (hl : lv_has ls 4 [(0, .ref b), (1, .ref (adL s.heap.size 0 0)), (2, .ref (adL s.heap.size 21 0)), (3, .int (nI j))]) : W p l e room_1 s m #[Value.ref b] below meth c H locs 600000 7302250 Q (F0 m 250 ls []) := by
  have S : CallFix p m c cL_law 4 s #[Value.ref b] wsL_law RL := ⟨hx, hb, hml, hown, hts⟩
  have hbA : ¬ s.heap.size ≤ b := Nat.not_le.mpr hbl
  have i1 : vp_in (nI j + 1) L := by rw [nI_add1]; exact pk_in (j + 1) L (by omega)
  have i2 : vp_in (nI j + 2) L := by rw [show nI j + (2 : Int32) = nI (j + 2) from nI_add j 2]; exact pk_in (j + 2) L (by omega)
  have i3 : vp_in (nI j + 3) L := by rw [show nI j + (3 : Int32) = nI (j + 3) from nI_add j 3]; exact pk_in (j + 3) L (by omega)
  obtain ⟨r, S1, sn1, Sn1, h1, Hs1, t1, n1, hO1, hw1, hw2⟩ := j_type hI (((xs (nI j + (1 : Int32)).toNatClampNeg).toUInt32 % 65536).toInt32) (pk_vc _)
  refine lv_aload_n hx hb dL_law_250 rfl (lv_at hl 1 rfl) ?_
  refine lv_aload_n hx hb dL_law_251 rfl (lv_at hl 0 rfl) ?_
  refine lv_iload_n hx hb dL_law_252 rfl (lv_at hl 3 rfl) ?_
  refine lv_iconst (v := (1 : Int32)) hx hb dL_law_253 (by decide) ?_
  refine lv_iadd hx hb dL_law_254 ?_
  refine va_sld hx hb hX hbl hbA hS i1 dL_law_255 ?_
  refine lv_i2c (v := ((xs (nI j + (1 : Int32)).toNatClampNeg).toUInt32 % 65536).toInt32) hx hb dL_law_256 rfl ?_
  refine l_V (As := [.int (((xs (nI j + (1 : Int32)).toNatClampNeg).toUInt32 % 65536).toInt32)]) (rest := []) (f := 0) (k := 0) (L2 := LM) S hK hN hP1 hP2 (LM_ap s.heap.size) hS (fun q z => z.1) (qX8_type l D E (adL s.heap.size) LX (A1 s.heap.size) (LX_F E s.heap.size) LX_gLx M1 (((xs (nI j + (1 : Int32)).toNatClampNeg).toUInt32 % 65536).toInt32) _ hw1) (cwV 1 hts gL_law_X8_type rfl rfl rfl eX8_type ⟨(Nat.le_of_ble_eq_true rfl), (Nat.le_of_ble_eq_true rfl)⟩) (LX_gLx.h (f := 0) (by decide)) (gC0 _ _ _ _) gcl8 rfl rfl rfl hl.1 (Nat.le_of_ble_eq_true rfl) ⟨Nat.le_refl _, Nat.le_refl _⟩ dL_law_257 (fun r1 M1 H locs hr1 hP1 hP2 hS => ?_)
  refine lv_aload_n hx hb dL_law_260 rfl (lv_at hl 2 rfl) ?_
  refine lv_aload_n hx hb dL_law_261 rfl (lv_at hl 0 rfl) ?_
  refine lv_iload_n hx hb dL_law_262 rfl (lv_at hl 3 rfl) ?_
  refine lv_iconst (v := (1 : Int32)) hx hb dL_law_263 (by decide) ?_
  refine lv_iadd hx hb dL_law_264 ?_
  refine va_sld hx hb hX hbl hbA hS i1 dL_law_265 ?_
  refine lv_i2c (v := ((xs (nI j + (1 : Int32)).toNatClampNeg).toUInt32 % 65536).toInt32) hx hb dL_law_266 rfl ?_
  refine l_V (As := [.int (((xs (nI j + (1 : Int32)).toNatClampNeg).toUInt32 % 65536).toInt32)]) (rest := [.int r1]) (f := 21) (k := 0) (L2 := LX) S hK hN hP2 hP1 (LX_ap s.heap.size) hS (fun q z => Nat.le_trans (Nat.le_add_right _ _) z.1) (qX9_type l D E (adL s.heap.size) LM (A2 s.heap.size) (LM_F E s.heap.size) LM_gLm M2 (((xs (nI j + (1 : Int32)).toNatClampNeg).toUInt32 % 65536).toInt32) _ hw2) (cwV 1 hts gL_law_X9_type rfl rfl rfl eX9_type ⟨(Nat.le_of_ble_eq_true rfl), (Nat.le_of_ble_eq_true rfl)⟩) (LM_gLm.h (f := 21) (by decide)) (gC21 _ _ _ _) gcl9 rfl rfl rfl hl.1 (Nat.le_of_ble_eq_true rfl) ⟨Nat.le_refl _, Nat.le_refl _⟩ dL_law_267 (fun r2 M2 H locs hr2 hP2 hP1 hS => ?_)
  exact lv_icmp_eq (tgt := 695) hx hb dL_law_270 (by decide) (fun _ => hback M1 M2 H locs ls ⟨S1, sn1, Sn1, h1, Hs1, t1, n1, hO1, hr1.2, hr2.2⟩ hP1 hP2 hS hl) (fun z => absurd (hr1.1.trans hr2.1.symm) z)
set_option maxHeartbeats 4000000 in
set_option maxRecDepth 100000 in
theorem lc_clearText {p : Program} {e : Env} {s : State} {m : MethodId} {below : List Frame} {meth : Method} {c : Code} {b L : Nat} {xs : Nat → Int32} {D : va_G} {E : Nat → ClassId} (l : Launch) (hx : p.tables.exec = Jvm.exec) (hb : c.code = cL_law) (hml : c.maxLocals = 4) (hown : s.vm.findClass RL = some m.cls) (hts : ∀ w ∈ wsL_law, w.before #[Value.ref b] s = true) (hX : va_X b L xs s s.heap) (hbl : b < s.heap.size) (hK : va_K D vwCl (gT E) s) (hN : gNw s) {Q : State → Prop} {j : Nat} (hj : j + 4 ≤ L) (hL : L ≤ 2048) (hback : ∀ (M1 M2 : gW) (H : Heap) (locs : List Loc) (ls : Array Slot), INV M1 M2 → va_P D vwCl (gL E (adL s.heap.size) LX M1) H → va_P D vwCl (gL E (adL s.heap.size) LM M2) H → va_S (fun q => s.heap.size ≤ q) s.heap H locs → lv_has ls 4 [(0, .ref b), (1, .ref (adL s.heap.size 0 0)), (2, .ref (adL s.heap.size 21 0)), (3, .int (nI j))] → W p l e room_1 s m #[Value.ref b] below meth c H locs 600000 7302250 Q (F0 m 695 ls [])) {M1 M2 : gW} {H : Heap} {locs : List Loc} {ls : Array Slot} (hI : INV M1 M2) (hP1 : va_P D vwCl (gL E (adL s.heap.size) LX M1) H) (hP2 : va_P D vwCl (gL E (adL s.heap.size) LM M2) H) (hS : va_S (fun q => s.heap.size ≤ q) s.heap H locs) (hl : lv_has ls 4 [(0, .ref b), (1, .ref (adL s.heap.size 0 0)), (2, .ref (adL s.heap.size 21 0)), (3, .int (nI j))]) : W p l e room_1 s m #[Value.ref b] below meth c H locs 600000 7302250 Q (F0 m 275 ls []) := by
  have S : CallFix p m c cL_law 4 s #[Value.ref b] wsL_law RL := ⟨hx, hb, hml, hown, hts⟩
  have hbA : ¬ s.heap.size ≤ b := Nat.not_le.mpr hbl
  have i1 : vp_in (nI j + 1) L := by rw [nI_add1]; exact pk_in (j + 1) L (by omega)
  have i2 : vp_in (nI j + 2) L := by rw [show nI j + (2 : Int32) = nI (j + 2) from nI_add j 2]; exact pk_in (j + 2) L (by omega)
  have i3 : vp_in (nI j + 3) L := by rw [show nI j + (3 : Int32) = nI (j + 3) from nI_add j 3]; exact pk_in (j + 3) L (by omega)
  obtain ⟨r, S1, sn1, Sn1, h1, Hs1, t1, n1, hO1, hw1, hw2⟩ := j_clearText hI 
  refine lv_aload_n hx hb dL_law_275 rfl (lv_at hl 1 rfl) ?_
  refine l_V (As := []) (rest := []) (f := 0) (k := 0) (L2 := LM) S hK hN hP1 hP2 (LM_ap s.heap.size) hS (fun q z => z.1) (qX8_clearText l D E (adL s.heap.size) LX (A1 s.heap.size) (LX_F E s.heap.size) LX_gLx M1  _ hw1) (cwV 0 hts gL_law_X8_clearText rfl rfl rfl eX8_clearText ⟨(Nat.le_of_ble_eq_true rfl), (Nat.le_of_ble_eq_true rfl)⟩) (LX_gLx.h (f := 0) (by decide)) (gC0 _ _ _ _) gcl8 rfl rfl rfl hl.1 (Nat.le_of_ble_eq_true rfl) ⟨Nat.le_refl _, Nat.le_refl _⟩ dL_law_276 (fun r1 M1 H locs hr1 hP1 hP2 hS => ?_)
  refine lv_aload_n hx hb dL_law_279 rfl (lv_at hl 2 rfl) ?_
  refine l_V (As := []) (rest := [.int r1]) (f := 21) (k := 0) (L2 := LX) S hK hN hP2 hP1 (LX_ap s.heap.size) hS (fun q z => Nat.le_trans (Nat.le_add_right _ _) z.1) (qX9_clearText l D E (adL s.heap.size) LM (A2 s.heap.size) (LM_F E s.heap.size) LM_gLm M2  _ hw2) (cwV 0 hts gL_law_X9_clearText rfl rfl rfl eX9_clearText ⟨(Nat.le_of_ble_eq_true rfl), (Nat.le_of_ble_eq_true rfl)⟩) (LM_gLm.h (f := 21) (by decide)) (gC21 _ _ _ _) gcl9 rfl rfl rfl hl.1 (Nat.le_of_ble_eq_true rfl) ⟨Nat.le_refl _, Nat.le_refl _⟩ dL_law_280 (fun r2 M2 H locs hr2 hP2 hP1 hS => ?_)
  exact lv_icmp_eq (tgt := 695) hx hb dL_law_283 (by decide) (fun _ => hback M1 M2 H locs ls ⟨S1, sn1, Sn1, h1, Hs1, t1, n1, hO1, hr1.2, hr2.2⟩ hP1 hP2 hS hl) (fun z => absurd (hr1.1.trans hr2.1.symm) z)
set_option maxHeartbeats 4000000 in
set_option maxRecDepth 100000 in
theorem lc_undo {p : Program} {e : Env} {s : State} {m : MethodId} {below : List Frame} {meth : Method} {c : Code} {b L : Nat} {xs : Nat → Int32} {D : va_G} {E : Nat → ClassId} (l : Launch) (hx : p.tables.exec = Jvm.exec) (hb : c.code = cL_law) (hml : c.maxLocals = 4) (hown : s.vm.findClass RL = some m.cls) (hts : ∀ w ∈ wsL_law, w.before #[Value.ref b] s = true) (hX : va_X b L xs s s.heap) (hbl : b < s.heap.size) (hK : va_K D vwCl (gT E) s) (hN : gNw s) {Q : State → Prop} {j : Nat} (hj : j + 4 ≤ L) (hL : L ≤ 2048) (hback : ∀ (M1 M2 : gW) (H : Heap) (locs : List Loc) (ls : Array Slot), INV M1 M2 → va_P D vwCl (gL E (adL s.heap.size) LX M1) H → va_P D vwCl (gL E (adL s.heap.size) LM M2) H → va_S (fun q => s.heap.size ≤ q) s.heap H locs → lv_has ls 4 [(0, .ref b), (1, .ref (adL s.heap.size 0 0)), (2, .ref (adL s.heap.size 21 0)), (3, .int (nI j))] → W p l e room_1 s m #[Value.ref b] below meth c H locs 600000 7302250 Q (F0 m 695 ls [])) {M1 M2 : gW} {H : Heap} {locs : List Loc} {ls : Array Slot} (hI : INV M1 M2) (hP1 : va_P D vwCl (gL E (adL s.heap.size) LX M1) H) (hP2 : va_P D vwCl (gL E (adL s.heap.size) LM M2) H) (hS : va_S (fun q => s.heap.size ≤ q) s.heap H locs) (hl : lv_has ls 4 [(0, .ref b), (1, .ref (adL s.heap.size 0 0)), (2, .ref (adL s.heap.size 21 0)), (3, .int (nI j))]) : W p l e room_1 s m #[Value.ref b] below meth c H locs 600000 7302250 Q (F0 m 288 ls []) := by
  have S : CallFix p m c cL_law 4 s #[Value.ref b] wsL_law RL := ⟨hx, hb, hml, hown, hts⟩
  have hbA : ¬ s.heap.size ≤ b := Nat.not_le.mpr hbl
  have i1 : vp_in (nI j + 1) L := by rw [nI_add1]; exact pk_in (j + 1) L (by omega)
  have i2 : vp_in (nI j + 2) L := by rw [show nI j + (2 : Int32) = nI (j + 2) from nI_add j 2]; exact pk_in (j + 2) L (by omega)
  have i3 : vp_in (nI j + 3) L := by rw [show nI j + (3 : Int32) = nI (j + 3) from nI_add j 3]; exact pk_in (j + 3) L (by omega)
  obtain ⟨r, S1, sn1, Sn1, h1, Hs1, t1, n1, hO1, hw1, hw2⟩ := j_undo hI 
  refine lv_aload_n hx hb dL_law_288 rfl (lv_at hl 1 rfl) ?_
  refine l_V (As := []) (rest := []) (f := 0) (k := 0) (L2 := LM) S hK hN hP1 hP2 (LM_ap s.heap.size) hS (fun q z => z.1) (qX8_undo l D E (adL s.heap.size) LX (A1 s.heap.size) (LX_F E s.heap.size) LX_gLx M1  _ hw1) (cwV 0 hts gL_law_X8_undo rfl rfl rfl eX8_undo ⟨(Nat.le_of_ble_eq_true rfl), (Nat.le_of_ble_eq_true rfl)⟩) (LX_gLx.h (f := 0) (by decide)) (gC0 _ _ _ _) gcl8 rfl rfl rfl hl.1 (Nat.le_of_ble_eq_true rfl) ⟨Nat.le_refl _, Nat.le_refl _⟩ dL_law_289 (fun r1 M1 H locs hr1 hP1 hP2 hS => ?_)
  refine lv_aload_n hx hb dL_law_292 rfl (lv_at hl 2 rfl) ?_
  refine l_V (As := []) (rest := [.int r1]) (f := 21) (k := 0) (L2 := LX) S hK hN hP2 hP1 (LX_ap s.heap.size) hS (fun q z => Nat.le_trans (Nat.le_add_right _ _) z.1) (qX9_undo l D E (adL s.heap.size) LM (A2 s.heap.size) (LM_F E s.heap.size) LM_gLm M2  _ hw2) (cwV 0 hts gL_law_X9_undo rfl rfl rfl eX9_undo ⟨(Nat.le_of_ble_eq_true rfl), (Nat.le_of_ble_eq_true rfl)⟩) (LM_gLm.h (f := 21) (by decide)) (gC21 _ _ _ _) gcl9 rfl rfl rfl hl.1 (Nat.le_of_ble_eq_true rfl) ⟨Nat.le_refl _, Nat.le_refl _⟩ dL_law_293 (fun r2 M2 H locs hr2 hP2 hP1 hS => ?_)
  exact lv_icmp_eq (tgt := 695) hx hb dL_law_296 (by decide) (fun _ => hback M1 M2 H locs ls ⟨S1, sn1, Sn1, h1, Hs1, t1, n1, hO1, hr1.2, hr2.2⟩ hP1 hP2 hS hl) (fun z => absurd (hr1.1.trans hr2.1.symm) z)
set_option maxHeartbeats 4000000 in
set_option maxRecDepth 100000 in
theorem lc_keep {p : Program} {e : Env} {s : State} {m : MethodId} {below : List Frame} {meth : Method} {c : Code} {b L : Nat} {xs : Nat → Int32} {D : va_G} {E : Nat → ClassId} (l : Launch) (hx : p.tables.exec = Jvm.exec) (hb : c.code = cL_law) (hml : c.maxLocals = 4) (hown : s.vm.findClass RL = some m.cls) (hts : ∀ w ∈ wsL_law, w.before #[Value.ref b] s = true) (hX : va_X b L xs s s.heap) (hbl : b < s.heap.size) (hK : va_K D vwCl (gT E) s) (hN : gNw s) {Q : State → Prop} {j : Nat} (hj : j + 4 ≤ L) (hL : L ≤ 2048) (hback : ∀ (M1 M2 : gW) (H : Heap) (locs : List Loc) (ls : Array Slot), INV M1 M2 → va_P D vwCl (gL E (adL s.heap.size) LX M1) H → va_P D vwCl (gL E (adL s.heap.size) LM M2) H → va_S (fun q => s.heap.size ≤ q) s.heap H locs → lv_has ls 4 [(0, .ref b), (1, .ref (adL s.heap.size 0 0)), (2, .ref (adL s.heap.size 21 0)), (3, .int (nI j))] → W p l e room_1 s m #[Value.ref b] below meth c H locs 600000 7302250 Q (F0 m 695 ls [])) {M1 M2 : gW} {H : Heap} {locs : List Loc} {ls : Array Slot} (hI : INV M1 M2) (hP1 : va_P D vwCl (gL E (adL s.heap.size) LX M1) H) (hP2 : va_P D vwCl (gL E (adL s.heap.size) LM M2) H) (hS : va_S (fun q => s.heap.size ≤ q) s.heap H locs) (hl : lv_has ls 4 [(0, .ref b), (1, .ref (adL s.heap.size 0 0)), (2, .ref (adL s.heap.size 21 0)), (3, .int (nI j))]) : W p l e room_1 s m #[Value.ref b] below meth c H locs 600000 7302250 Q (F0 m 301 ls []) := by
  have S : CallFix p m c cL_law 4 s #[Value.ref b] wsL_law RL := ⟨hx, hb, hml, hown, hts⟩
  have hbA : ¬ s.heap.size ≤ b := Nat.not_le.mpr hbl
  have i1 : vp_in (nI j + 1) L := by rw [nI_add1]; exact pk_in (j + 1) L (by omega)
  have i2 : vp_in (nI j + 2) L := by rw [show nI j + (2 : Int32) = nI (j + 2) from nI_add j 2]; exact pk_in (j + 2) L (by omega)
  have i3 : vp_in (nI j + 3) L := by rw [show nI j + (3 : Int32) = nI (j + 3) from nI_add j 3]; exact pk_in (j + 3) L (by omega)
  obtain ⟨r, S1, sn1, Sn1, h1, Hs1, t1, n1, hO1, hw1, hw2⟩ := j_keep hI 
  refine lv_aload_n hx hb dL_law_301 rfl (lv_at hl 1 rfl) ?_
  refine l_V (As := []) (rest := []) (f := 0) (k := 0) (L2 := LM) S hK hN hP1 hP2 (LM_ap s.heap.size) hS (fun q z => z.1) (qX8_keep l D E (adL s.heap.size) LX (A1 s.heap.size) (LX_F E s.heap.size) LX_gLx M1  _ hw1) (cwV 0 hts gL_law_X8_keep rfl rfl rfl eX8_keep ⟨(Nat.le_of_ble_eq_true rfl), (Nat.le_of_ble_eq_true rfl)⟩) (LX_gLx.h (f := 0) (by decide)) (gC0 _ _ _ _) gcl8 rfl rfl rfl hl.1 (Nat.le_of_ble_eq_true rfl) ⟨Nat.le_refl _, Nat.le_refl _⟩ dL_law_302 (fun r1 M1 H locs hr1 hP1 hP2 hS => ?_)
  refine lv_aload_n hx hb dL_law_305 rfl (lv_at hl 2 rfl) ?_
  refine l_V (As := []) (rest := [.int r1]) (f := 21) (k := 0) (L2 := LX) S hK hN hP2 hP1 (LX_ap s.heap.size) hS (fun q z => Nat.le_trans (Nat.le_add_right _ _) z.1) (qX9_keep l D E (adL s.heap.size) LM (A2 s.heap.size) (LM_F E s.heap.size) LM_gLm M2  _ hw2) (cwV 0 hts gL_law_X9_keep rfl rfl rfl eX9_keep ⟨(Nat.le_of_ble_eq_true rfl), (Nat.le_of_ble_eq_true rfl)⟩) (LM_gLm.h (f := 21) (by decide)) (gC21 _ _ _ _) gcl9 rfl rfl rfl hl.1 (Nat.le_of_ble_eq_true rfl) ⟨Nat.le_refl _, Nat.le_refl _⟩ dL_law_306 (fun r2 M2 H locs hr2 hP2 hP1 hS => ?_)
  exact lv_icmp_eq (tgt := 695) hx hb dL_law_309 (by decide) (fun _ => hback M1 M2 H locs ls ⟨S1, sn1, Sn1, h1, Hs1, t1, n1, hO1, hr1.2, hr2.2⟩ hP1 hP2 hS hl) (fun z => absurd (hr1.1.trans hr2.1.symm) z)
set_option maxHeartbeats 4000000 in
set_option maxRecDepth 100000 in
theorem lc_restore {p : Program} {e : Env} {s : State} {m : MethodId} {below : List Frame} {meth : Method} {c : Code} {b L : Nat} {xs : Nat → Int32} {D : va_G} {E : Nat → ClassId} (l : Launch) (hx : p.tables.exec = Jvm.exec) (hb : c.code = cL_law) (hml : c.maxLocals = 4) (hown : s.vm.findClass RL = some m.cls) (hts : ∀ w ∈ wsL_law, w.before #[Value.ref b] s = true) (hX : va_X b L xs s s.heap) (hbl : b < s.heap.size) (hK : va_K D vwCl (gT E) s) (hN : gNw s) {Q : State → Prop} {j : Nat} (hj : j + 4 ≤ L) (hL : L ≤ 2048) (hback : ∀ (M1 M2 : gW) (H : Heap) (locs : List Loc) (ls : Array Slot), INV M1 M2 → va_P D vwCl (gL E (adL s.heap.size) LX M1) H → va_P D vwCl (gL E (adL s.heap.size) LM M2) H → va_S (fun q => s.heap.size ≤ q) s.heap H locs → lv_has ls 4 [(0, .ref b), (1, .ref (adL s.heap.size 0 0)), (2, .ref (adL s.heap.size 21 0)), (3, .int (nI j))] → W p l e room_1 s m #[Value.ref b] below meth c H locs 600000 7302250 Q (F0 m 695 ls [])) {M1 M2 : gW} {H : Heap} {locs : List Loc} {ls : Array Slot} (hI : INV M1 M2) (hP1 : va_P D vwCl (gL E (adL s.heap.size) LX M1) H) (hP2 : va_P D vwCl (gL E (adL s.heap.size) LM M2) H) (hS : va_S (fun q => s.heap.size ≤ q) s.heap H locs) (hl : lv_has ls 4 [(0, .ref b), (1, .ref (adL s.heap.size 0 0)), (2, .ref (adL s.heap.size 21 0)), (3, .int (nI j))]) : W p l e room_1 s m #[Value.ref b] below meth c H locs 600000 7302250 Q (F0 m 314 ls []) := by
  have S : CallFix p m c cL_law 4 s #[Value.ref b] wsL_law RL := ⟨hx, hb, hml, hown, hts⟩
  have hbA : ¬ s.heap.size ≤ b := Nat.not_le.mpr hbl
  have i1 : vp_in (nI j + 1) L := by rw [nI_add1]; exact pk_in (j + 1) L (by omega)
  have i2 : vp_in (nI j + 2) L := by rw [show nI j + (2 : Int32) = nI (j + 2) from nI_add j 2]; exact pk_in (j + 2) L (by omega)
  have i3 : vp_in (nI j + 3) L := by rw [show nI j + (3 : Int32) = nI (j + 3) from nI_add j 3]; exact pk_in (j + 3) L (by omega)
  obtain ⟨r, S1, sn1, Sn1, h1, Hs1, t1, n1, hO1, hw1, hw2⟩ := j_restore hI 
  refine lv_aload_n hx hb dL_law_314 rfl (lv_at hl 1 rfl) ?_
  refine l_V (As := []) (rest := []) (f := 0) (k := 0) (L2 := LM) S hK hN hP1 hP2 (LM_ap s.heap.size) hS (fun q z => z.1) (qX8_restore l D E (adL s.heap.size) LX (A1 s.heap.size) (LX_F E s.heap.size) LX_gLx M1  _ hw1) (cwV 0 hts gL_law_X8_restore rfl rfl rfl eX8_restore ⟨(Nat.le_of_ble_eq_true rfl), (Nat.le_of_ble_eq_true rfl)⟩) (LX_gLx.h (f := 0) (by decide)) (gC0 _ _ _ _) gcl8 rfl rfl rfl hl.1 (Nat.le_of_ble_eq_true rfl) ⟨Nat.le_refl _, Nat.le_refl _⟩ dL_law_315 (fun r1 M1 H locs hr1 hP1 hP2 hS => ?_)
  refine lv_aload_n hx hb dL_law_318 rfl (lv_at hl 2 rfl) ?_
  refine l_V (As := []) (rest := [.int r1]) (f := 21) (k := 0) (L2 := LX) S hK hN hP2 hP1 (LX_ap s.heap.size) hS (fun q z => Nat.le_trans (Nat.le_add_right _ _) z.1) (qX9_restore l D E (adL s.heap.size) LM (A2 s.heap.size) (LM_F E s.heap.size) LM_gLm M2  _ hw2) (cwV 0 hts gL_law_X9_restore rfl rfl rfl eX9_restore ⟨(Nat.le_of_ble_eq_true rfl), (Nat.le_of_ble_eq_true rfl)⟩) (LM_gLm.h (f := 21) (by decide)) (gC21 _ _ _ _) gcl9 rfl rfl rfl hl.1 (Nat.le_of_ble_eq_true rfl) ⟨Nat.le_refl _, Nat.le_refl _⟩ dL_law_319 (fun r2 M2 H locs hr2 hP2 hP1 hS => ?_)
  exact lv_icmp_eq (tgt := 695) hx hb dL_law_322 (by decide) (fun _ => hback M1 M2 H locs ls ⟨S1, sn1, Sn1, h1, Hs1, t1, n1, hO1, hr1.2, hr2.2⟩ hP1 hP2 hS hl) (fun z => absurd (hr1.1.trans hr2.1.symm) z)
set_option maxHeartbeats 4000000 in
set_option maxRecDepth 100000 in
theorem lc_letter {p : Program} {e : Env} {s : State} {m : MethodId} {below : List Frame} {meth : Method} {c : Code} {b L : Nat} {xs : Nat → Int32} {D : va_G} {E : Nat → ClassId} (l : Launch) (hx : p.tables.exec = Jvm.exec) (hb : c.code = cL_law) (hml : c.maxLocals = 4) (hown : s.vm.findClass RL = some m.cls) (hts : ∀ w ∈ wsL_law, w.before #[Value.ref b] s = true) (hX : va_X b L xs s s.heap) (hbl : b < s.heap.size) (hK : va_K D vwCl (gT E) s) (hN : gNw s) {Q : State → Prop} {j : Nat} (hj : j + 4 ≤ L) (hL : L ≤ 2048) (hback : ∀ (M1 M2 : gW) (H : Heap) (locs : List Loc) (ls : Array Slot), INV M1 M2 → va_P D vwCl (gL E (adL s.heap.size) LX M1) H → va_P D vwCl (gL E (adL s.heap.size) LM M2) H → va_S (fun q => s.heap.size ≤ q) s.heap H locs → lv_has ls 4 [(0, .ref b), (1, .ref (adL s.heap.size 0 0)), (2, .ref (adL s.heap.size 21 0)), (3, .int (nI j))] → W p l e room_1 s m #[Value.ref b] below meth c H locs 600000 7302250 Q (F0 m 695 ls [])) {M1 M2 : gW} {H : Heap} {locs : List Loc} {ls : Array Slot} (hI : INV M1 M2) (hP1 : va_P D vwCl (gL E (adL s.heap.size) LX M1) H) (hP2 : va_P D vwCl (gL E (adL s.heap.size) LM M2) H) (hS : va_S (fun q => s.heap.size ≤ q) s.heap H locs) (hl : lv_has ls 4 [(0, .ref b), (1, .ref (adL s.heap.size 0 0)), (2, .ref (adL s.heap.size 21 0)), (3, .int (nI j))]) : W p l e room_1 s m #[Value.ref b] below meth c H locs 600000 7302250 Q (F0 m 327 ls []) := by
  have S : CallFix p m c cL_law 4 s #[Value.ref b] wsL_law RL := ⟨hx, hb, hml, hown, hts⟩
  have hbA : ¬ s.heap.size ≤ b := Nat.not_le.mpr hbl
  have i1 : vp_in (nI j + 1) L := by rw [nI_add1]; exact pk_in (j + 1) L (by omega)
  have i2 : vp_in (nI j + 2) L := by rw [show nI j + (2 : Int32) = nI (j + 2) from nI_add j 2]; exact pk_in (j + 2) L (by omega)
  have i3 : vp_in (nI j + 3) L := by rw [show nI j + (3 : Int32) = nI (j + 3) from nI_add j 3]; exact pk_in (j + 3) L (by omega)
  obtain ⟨r, S1, sn1, Sn1, h1, Hs1, t1, n1, hO1, hw1, hw2⟩ := j_letter hI (((xs (nI j + (1 : Int32)).toNatClampNeg).toUInt32 % 65536).toInt32) ((xs (nI j + (2 : Int32)).toNatClampNeg))
  refine lv_aload_n hx hb dL_law_327 rfl (lv_at hl 1 rfl) ?_
  refine lv_aload_n hx hb dL_law_328 rfl (lv_at hl 0 rfl) ?_
  refine lv_iload_n hx hb dL_law_329 rfl (lv_at hl 3 rfl) ?_
  refine lv_iconst (v := (1 : Int32)) hx hb dL_law_330 (by decide) ?_
  refine lv_iadd hx hb dL_law_331 ?_
  refine va_sld hx hb hX hbl hbA hS i1 dL_law_332 ?_
  refine lv_i2c (v := ((xs (nI j + (1 : Int32)).toNatClampNeg).toUInt32 % 65536).toInt32) hx hb dL_law_333 rfl ?_
  refine lv_aload_n hx hb dL_law_334 rfl (lv_at hl 0 rfl) ?_
  refine lv_iload_n hx hb dL_law_335 rfl (lv_at hl 3 rfl) ?_
  refine lv_iconst (v := (2 : Int32)) hx hb dL_law_336 (by decide) ?_
  refine lv_iadd hx hb dL_law_337 ?_
  refine va_sld hx hb hX hbl hbA hS i2 dL_law_338 ?_
  refine l_V (As := [.int (((xs (nI j + (1 : Int32)).toNatClampNeg).toUInt32 % 65536).toInt32), .int ((xs (nI j + (2 : Int32)).toNatClampNeg))]) (rest := []) (f := 0) (k := 0) (L2 := LM) S hK hN hP1 hP2 (LM_ap s.heap.size) hS (fun q z => z.1) (qX8_letter l D E (adL s.heap.size) LX (A1 s.heap.size) (LX_F E s.heap.size) LX_gLx M1 (((xs (nI j + (1 : Int32)).toNatClampNeg).toUInt32 % 65536).toInt32) ((xs (nI j + (2 : Int32)).toNatClampNeg)) _ hw1) (cwV 2 hts gL_law_X8_letter rfl rfl rfl eX8_letter ⟨(Nat.le_of_ble_eq_true rfl), (Nat.le_of_ble_eq_true rfl)⟩) (LX_gLx.h (f := 0) (by decide)) (gC0 _ _ _ _) gcl8 rfl rfl rfl hl.1 (Nat.le_of_ble_eq_true rfl) ⟨Nat.le_refl _, Nat.le_refl _⟩ dL_law_339 (fun r1 M1 H locs hr1 hP1 hP2 hS => ?_)
  refine lv_aload_n hx hb dL_law_342 rfl (lv_at hl 2 rfl) ?_
  refine lv_aload_n hx hb dL_law_343 rfl (lv_at hl 0 rfl) ?_
  refine lv_iload_n hx hb dL_law_344 rfl (lv_at hl 3 rfl) ?_
  refine lv_iconst (v := (1 : Int32)) hx hb dL_law_345 (by decide) ?_
  refine lv_iadd hx hb dL_law_346 ?_
  refine va_sld hx hb hX hbl hbA hS i1 dL_law_347 ?_
  refine lv_i2c (v := ((xs (nI j + (1 : Int32)).toNatClampNeg).toUInt32 % 65536).toInt32) hx hb dL_law_348 rfl ?_
  refine lv_aload_n hx hb dL_law_349 rfl (lv_at hl 0 rfl) ?_
  refine lv_iload_n hx hb dL_law_350 rfl (lv_at hl 3 rfl) ?_
  refine lv_iconst (v := (2 : Int32)) hx hb dL_law_351 (by decide) ?_
  refine lv_iadd hx hb dL_law_352 ?_
  refine va_sld hx hb hX hbl hbA hS i2 dL_law_353 ?_
  refine l_V (As := [.int (((xs (nI j + (1 : Int32)).toNatClampNeg).toUInt32 % 65536).toInt32), .int ((xs (nI j + (2 : Int32)).toNatClampNeg))]) (rest := [.int r1]) (f := 21) (k := 0) (L2 := LX) S hK hN hP2 hP1 (LX_ap s.heap.size) hS (fun q z => Nat.le_trans (Nat.le_add_right _ _) z.1) (qX9_letter l D E (adL s.heap.size) LM (A2 s.heap.size) (LM_F E s.heap.size) LM_gLm M2 (((xs (nI j + (1 : Int32)).toNatClampNeg).toUInt32 % 65536).toInt32) ((xs (nI j + (2 : Int32)).toNatClampNeg)) _ hw2) (cwV 2 hts gL_law_X9_letter rfl rfl rfl eX9_letter ⟨(Nat.le_of_ble_eq_true rfl), (Nat.le_of_ble_eq_true rfl)⟩) (LM_gLm.h (f := 21) (by decide)) (gC21 _ _ _ _) gcl9 rfl rfl rfl hl.1 (Nat.le_of_ble_eq_true rfl) ⟨Nat.le_refl _, Nat.le_refl _⟩ dL_law_354 (fun r2 M2 H locs hr2 hP2 hP1 hS => ?_)
  exact lv_icmp_eq (tgt := 695) hx hb dL_law_357 (by decide) (fun _ => hback M1 M2 H locs ls ⟨S1, sn1, Sn1, h1, Hs1, t1, n1, hO1, hr1.2, hr2.2⟩ hP1 hP2 hS hl) (fun z => absurd (hr1.1.trans hr2.1.symm) z)
set_option maxHeartbeats 4000000 in
set_option maxRecDepth 100000 in
theorem lc_join {p : Program} {e : Env} {s : State} {m : MethodId} {below : List Frame} {meth : Method} {c : Code} {b L : Nat} {xs : Nat → Int32} {D : va_G} {E : Nat → ClassId} (l : Launch) (hx : p.tables.exec = Jvm.exec) (hb : c.code = cL_law) (hml : c.maxLocals = 4) (hown : s.vm.findClass RL = some m.cls) (hts : ∀ w ∈ wsL_law, w.before #[Value.ref b] s = true) (hX : va_X b L xs s s.heap) (hbl : b < s.heap.size) (hK : va_K D vwCl (gT E) s) (hN : gNw s) {Q : State → Prop} {j : Nat} (hj : j + 4 ≤ L) (hL : L ≤ 2048) (hback : ∀ (M1 M2 : gW) (H : Heap) (locs : List Loc) (ls : Array Slot), INV M1 M2 → va_P D vwCl (gL E (adL s.heap.size) LX M1) H → va_P D vwCl (gL E (adL s.heap.size) LM M2) H → va_S (fun q => s.heap.size ≤ q) s.heap H locs → lv_has ls 4 [(0, .ref b), (1, .ref (adL s.heap.size 0 0)), (2, .ref (adL s.heap.size 21 0)), (3, .int (nI j))] → W p l e room_1 s m #[Value.ref b] below meth c H locs 600000 7302250 Q (F0 m 695 ls [])) {M1 M2 : gW} {H : Heap} {locs : List Loc} {ls : Array Slot} (hI : INV M1 M2) (hP1 : va_P D vwCl (gL E (adL s.heap.size) LX M1) H) (hP2 : va_P D vwCl (gL E (adL s.heap.size) LM M2) H) (hS : va_S (fun q => s.heap.size ≤ q) s.heap H locs) (hl : lv_has ls 4 [(0, .ref b), (1, .ref (adL s.heap.size 0 0)), (2, .ref (adL s.heap.size 21 0)), (3, .int (nI j))]) : W p l e room_1 s m #[Value.ref b] below meth c H locs 600000 7302250 Q (F0 m 362 ls []) := by
  have S : CallFix p m c cL_law 4 s #[Value.ref b] wsL_law RL := ⟨hx, hb, hml, hown, hts⟩
  have hbA : ¬ s.heap.size ≤ b := Nat.not_le.mpr hbl
  have i1 : vp_in (nI j + 1) L := by rw [nI_add1]; exact pk_in (j + 1) L (by omega)
  have i2 : vp_in (nI j + 2) L := by rw [show nI j + (2 : Int32) = nI (j + 2) from nI_add j 2]; exact pk_in (j + 2) L (by omega)
  have i3 : vp_in (nI j + 3) L := by rw [show nI j + (3 : Int32) = nI (j + 3) from nI_add j 3]; exact pk_in (j + 3) L (by omega)
  obtain ⟨r, S1, sn1, Sn1, h1, Hs1, t1, n1, hO1, hw1, hw2⟩ := j_join hI (((xs (nI j + (1 : Int32)).toNatClampNeg).toUInt32 % 65536).toInt32) (((xs (nI j + (2 : Int32)).toNatClampNeg).toUInt32 % 65536).toInt32) ((xs (nI j + (3 : Int32)).toNatClampNeg))
  refine lv_aload_n hx hb dL_law_362 rfl (lv_at hl 1 rfl) ?_
  refine lv_aload_n hx hb dL_law_363 rfl (lv_at hl 0 rfl) ?_
  refine lv_iload_n hx hb dL_law_364 rfl (lv_at hl 3 rfl) ?_
  refine lv_iconst (v := (1 : Int32)) hx hb dL_law_365 (by decide) ?_
  refine lv_iadd hx hb dL_law_366 ?_
  refine va_sld hx hb hX hbl hbA hS i1 dL_law_367 ?_
  refine lv_i2c (v := ((xs (nI j + (1 : Int32)).toNatClampNeg).toUInt32 % 65536).toInt32) hx hb dL_law_368 rfl ?_
  refine lv_aload_n hx hb dL_law_369 rfl (lv_at hl 0 rfl) ?_
  refine lv_iload_n hx hb dL_law_370 rfl (lv_at hl 3 rfl) ?_
  refine lv_iconst (v := (2 : Int32)) hx hb dL_law_371 (by decide) ?_
  refine lv_iadd hx hb dL_law_372 ?_
  refine va_sld hx hb hX hbl hbA hS i2 dL_law_373 ?_
  refine lv_i2c (v := ((xs (nI j + (2 : Int32)).toNatClampNeg).toUInt32 % 65536).toInt32) hx hb dL_law_374 rfl ?_
  refine lv_aload_n hx hb dL_law_375 rfl (lv_at hl 0 rfl) ?_
  refine lv_iload_n hx hb dL_law_376 rfl (lv_at hl 3 rfl) ?_
  refine lv_iconst (v := (3 : Int32)) hx hb dL_law_377 (by decide) ?_
  refine lv_iadd hx hb dL_law_378 ?_
  refine va_sld hx hb hX hbl hbA hS i3 dL_law_379 ?_
  refine l_V (As := [.int (((xs (nI j + (1 : Int32)).toNatClampNeg).toUInt32 % 65536).toInt32), .int (((xs (nI j + (2 : Int32)).toNatClampNeg).toUInt32 % 65536).toInt32), .int ((xs (nI j + (3 : Int32)).toNatClampNeg))]) (rest := []) (f := 0) (k := 0) (L2 := LM) S hK hN hP1 hP2 (LM_ap s.heap.size) hS (fun q z => z.1) (qX8_join l D E (adL s.heap.size) LX (A1 s.heap.size) (LX_F E s.heap.size) LX_gLx M1 (((xs (nI j + (1 : Int32)).toNatClampNeg).toUInt32 % 65536).toInt32) (((xs (nI j + (2 : Int32)).toNatClampNeg).toUInt32 % 65536).toInt32) ((xs (nI j + (3 : Int32)).toNatClampNeg)) _ hw1) (cwV 3 hts gL_law_X8_join rfl rfl rfl eX8_join ⟨(Nat.le_of_ble_eq_true rfl), (Nat.le_of_ble_eq_true rfl)⟩) (LX_gLx.h (f := 0) (by decide)) (gC0 _ _ _ _) gcl8 rfl rfl rfl hl.1 (Nat.le_of_ble_eq_true rfl) ⟨Nat.le_refl _, Nat.le_refl _⟩ dL_law_380 (fun r1 M1 H locs hr1 hP1 hP2 hS => ?_)
  refine lv_aload_n hx hb dL_law_383 rfl (lv_at hl 2 rfl) ?_
  refine lv_aload_n hx hb dL_law_384 rfl (lv_at hl 0 rfl) ?_
  refine lv_iload_n hx hb dL_law_385 rfl (lv_at hl 3 rfl) ?_
  refine lv_iconst (v := (1 : Int32)) hx hb dL_law_386 (by decide) ?_
  refine lv_iadd hx hb dL_law_387 ?_
  refine va_sld hx hb hX hbl hbA hS i1 dL_law_388 ?_
  refine lv_i2c (v := ((xs (nI j + (1 : Int32)).toNatClampNeg).toUInt32 % 65536).toInt32) hx hb dL_law_389 rfl ?_
  refine lv_aload_n hx hb dL_law_390 rfl (lv_at hl 0 rfl) ?_
  refine lv_iload_n hx hb dL_law_391 rfl (lv_at hl 3 rfl) ?_
  refine lv_iconst (v := (2 : Int32)) hx hb dL_law_392 (by decide) ?_
  refine lv_iadd hx hb dL_law_393 ?_
  refine va_sld hx hb hX hbl hbA hS i2 dL_law_394 ?_
  refine lv_i2c (v := ((xs (nI j + (2 : Int32)).toNatClampNeg).toUInt32 % 65536).toInt32) hx hb dL_law_395 rfl ?_
  refine lv_aload_n hx hb dL_law_396 rfl (lv_at hl 0 rfl) ?_
  refine lv_iload_n hx hb dL_law_397 rfl (lv_at hl 3 rfl) ?_
  refine lv_iconst (v := (3 : Int32)) hx hb dL_law_398 (by decide) ?_
  refine lv_iadd hx hb dL_law_399 ?_
  refine va_sld hx hb hX hbl hbA hS i3 dL_law_400 ?_
  refine l_V (As := [.int (((xs (nI j + (1 : Int32)).toNatClampNeg).toUInt32 % 65536).toInt32), .int (((xs (nI j + (2 : Int32)).toNatClampNeg).toUInt32 % 65536).toInt32), .int ((xs (nI j + (3 : Int32)).toNatClampNeg))]) (rest := [.int r1]) (f := 21) (k := 0) (L2 := LX) S hK hN hP2 hP1 (LX_ap s.heap.size) hS (fun q z => Nat.le_trans (Nat.le_add_right _ _) z.1) (qX9_join l D E (adL s.heap.size) LM (A2 s.heap.size) (LM_F E s.heap.size) LM_gLm M2 (((xs (nI j + (1 : Int32)).toNatClampNeg).toUInt32 % 65536).toInt32) (((xs (nI j + (2 : Int32)).toNatClampNeg).toUInt32 % 65536).toInt32) ((xs (nI j + (3 : Int32)).toNatClampNeg)) _ hw2) (cwV 3 hts gL_law_X9_join rfl rfl rfl eX9_join ⟨(Nat.le_of_ble_eq_true rfl), (Nat.le_of_ble_eq_true rfl)⟩) (LM_gLm.h (f := 21) (by decide)) (gC21 _ _ _ _) gcl9 rfl rfl rfl hl.1 (Nat.le_of_ble_eq_true rfl) ⟨Nat.le_refl _, Nat.le_refl _⟩ dL_law_401 (fun r2 M2 H locs hr2 hP2 hP1 hS => ?_)
  exact lv_icmp_eq (tgt := 695) hx hb dL_law_404 (by decide) (fun _ => hback M1 M2 H locs ls ⟨S1, sn1, Sn1, h1, Hs1, t1, n1, hO1, hr1.2, hr2.2⟩ hP1 hP2 hS hl) (fun z => absurd (hr1.1.trans hr2.1.symm) z)
set_option maxHeartbeats 4000000 in
set_option maxRecDepth 100000 in
theorem lc_word {p : Program} {e : Env} {s : State} {m : MethodId} {below : List Frame} {meth : Method} {c : Code} {b L : Nat} {xs : Nat → Int32} {D : va_G} {E : Nat → ClassId} (l : Launch) (hx : p.tables.exec = Jvm.exec) (hb : c.code = cL_law) (hml : c.maxLocals = 4) (hown : s.vm.findClass RL = some m.cls) (hts : ∀ w ∈ wsL_law, w.before #[Value.ref b] s = true) (hX : va_X b L xs s s.heap) (hbl : b < s.heap.size) (hK : va_K D vwCl (gT E) s) (hN : gNw s) {Q : State → Prop} {j : Nat} (hj : j + 4 ≤ L) (hL : L ≤ 2048) (hback : ∀ (M1 M2 : gW) (H : Heap) (locs : List Loc) (ls : Array Slot), INV M1 M2 → va_P D vwCl (gL E (adL s.heap.size) LX M1) H → va_P D vwCl (gL E (adL s.heap.size) LM M2) H → va_S (fun q => s.heap.size ≤ q) s.heap H locs → lv_has ls 4 [(0, .ref b), (1, .ref (adL s.heap.size 0 0)), (2, .ref (adL s.heap.size 21 0)), (3, .int (nI j))] → W p l e room_1 s m #[Value.ref b] below meth c H locs 600000 7302250 Q (F0 m 695 ls [])) {M1 M2 : gW} {H : Heap} {locs : List Loc} {ls : Array Slot} (hI : INV M1 M2) (hP1 : va_P D vwCl (gL E (adL s.heap.size) LX M1) H) (hP2 : va_P D vwCl (gL E (adL s.heap.size) LM M2) H) (hS : va_S (fun q => s.heap.size ≤ q) s.heap H locs) (hl : lv_has ls 4 [(0, .ref b), (1, .ref (adL s.heap.size 0 0)), (2, .ref (adL s.heap.size 21 0)), (3, .int (nI j))]) : W p l e room_1 s m #[Value.ref b] below meth c H locs 600000 7302250 Q (F0 m 409 ls []) := by
  have S : CallFix p m c cL_law 4 s #[Value.ref b] wsL_law RL := ⟨hx, hb, hml, hown, hts⟩
  have hbA : ¬ s.heap.size ≤ b := Nat.not_le.mpr hbl
  have i1 : vp_in (nI j + 1) L := by rw [nI_add1]; exact pk_in (j + 1) L (by omega)
  have i2 : vp_in (nI j + 2) L := by rw [show nI j + (2 : Int32) = nI (j + 2) from nI_add j 2]; exact pk_in (j + 2) L (by omega)
  have i3 : vp_in (nI j + 3) L := by rw [show nI j + (3 : Int32) = nI (j + 3) from nI_add j 3]; exact pk_in (j + 3) L (by omega)
  obtain ⟨r, S1, sn1, Sn1, h1, Hs1, t1, n1, hO1, hw1, hw2⟩ := j_word hI ((xs (nI j + (1 : Int32)).toNatClampNeg)) ((xs (nI j + (2 : Int32)).toNatClampNeg))
  refine lv_aload_n hx hb dL_law_409 rfl (lv_at hl 1 rfl) ?_
  refine lv_aload_n hx hb dL_law_410 rfl (lv_at hl 0 rfl) ?_
  refine lv_iload_n hx hb dL_law_411 rfl (lv_at hl 3 rfl) ?_
  refine lv_iconst (v := (1 : Int32)) hx hb dL_law_412 (by decide) ?_
  refine lv_iadd hx hb dL_law_413 ?_
  refine va_sld hx hb hX hbl hbA hS i1 dL_law_414 ?_
  refine lv_aload_n hx hb dL_law_415 rfl (lv_at hl 0 rfl) ?_
  refine lv_iload_n hx hb dL_law_416 rfl (lv_at hl 3 rfl) ?_
  refine lv_iconst (v := (2 : Int32)) hx hb dL_law_417 (by decide) ?_
  refine lv_iadd hx hb dL_law_418 ?_
  refine va_sld hx hb hX hbl hbA hS i2 dL_law_419 ?_
  refine l_V (As := [.int ((xs (nI j + (1 : Int32)).toNatClampNeg)), .int ((xs (nI j + (2 : Int32)).toNatClampNeg))]) (rest := []) (f := 0) (k := 0) (L2 := LM) S hK hN hP1 hP2 (LM_ap s.heap.size) hS (fun q z => z.1) (qX8_word l D E (adL s.heap.size) LX (A1 s.heap.size) (LX_F E s.heap.size) LX_gLx M1 ((xs (nI j + (1 : Int32)).toNatClampNeg)) ((xs (nI j + (2 : Int32)).toNatClampNeg)) _ hw1) (cwV 2 hts gL_law_X8_word rfl rfl rfl eX8_word ⟨(Nat.le_of_ble_eq_true rfl), (Nat.le_of_ble_eq_true rfl)⟩) (LX_gLx.h (f := 0) (by decide)) (gC0 _ _ _ _) gcl8 rfl rfl rfl hl.1 (Nat.le_of_ble_eq_true rfl) ⟨Nat.le_refl _, Nat.le_refl _⟩ dL_law_420 (fun r1 M1 H locs hr1 hP1 hP2 hS => ?_)
  refine lv_aload_n hx hb dL_law_423 rfl (lv_at hl 2 rfl) ?_
  refine lv_aload_n hx hb dL_law_424 rfl (lv_at hl 0 rfl) ?_
  refine lv_iload_n hx hb dL_law_425 rfl (lv_at hl 3 rfl) ?_
  refine lv_iconst (v := (1 : Int32)) hx hb dL_law_426 (by decide) ?_
  refine lv_iadd hx hb dL_law_427 ?_
  refine va_sld hx hb hX hbl hbA hS i1 dL_law_428 ?_
  refine lv_aload_n hx hb dL_law_429 rfl (lv_at hl 0 rfl) ?_
  refine lv_iload_n hx hb dL_law_430 rfl (lv_at hl 3 rfl) ?_
  refine lv_iconst (v := (2 : Int32)) hx hb dL_law_431 (by decide) ?_
  refine lv_iadd hx hb dL_law_432 ?_
  refine va_sld hx hb hX hbl hbA hS i2 dL_law_433 ?_
  refine l_V (As := [.int ((xs (nI j + (1 : Int32)).toNatClampNeg)), .int ((xs (nI j + (2 : Int32)).toNatClampNeg))]) (rest := [.int r1]) (f := 21) (k := 0) (L2 := LX) S hK hN hP2 hP1 (LX_ap s.heap.size) hS (fun q z => Nat.le_trans (Nat.le_add_right _ _) z.1) (qX9_word l D E (adL s.heap.size) LM (A2 s.heap.size) (LM_F E s.heap.size) LM_gLm M2 ((xs (nI j + (1 : Int32)).toNatClampNeg)) ((xs (nI j + (2 : Int32)).toNatClampNeg)) _ hw2) (cwV 2 hts gL_law_X9_word rfl rfl rfl eX9_word ⟨(Nat.le_of_ble_eq_true rfl), (Nat.le_of_ble_eq_true rfl)⟩) (LM_gLm.h (f := 21) (by decide)) (gC21 _ _ _ _) gcl9 rfl rfl rfl hl.1 (Nat.le_of_ble_eq_true rfl) ⟨Nat.le_refl _, Nat.le_refl _⟩ dL_law_434 (fun r2 M2 H locs hr2 hP2 hP1 hS => ?_)
  exact lv_icmp_eq (tgt := 695) hx hb dL_law_437 (by decide) (fun _ => hback M1 M2 H locs ls ⟨S1, sn1, Sn1, h1, Hs1, t1, n1, hO1, hr1.2, hr2.2⟩ hP1 hP2 hS hl) (fun z => absurd (hr1.1.trans hr2.1.symm) z)
set_option maxHeartbeats 4000000 in
set_option maxRecDepth 100000 in
theorem lc_letterOf {p : Program} {e : Env} {s : State} {m : MethodId} {below : List Frame} {meth : Method} {c : Code} {b L : Nat} {xs : Nat → Int32} {D : va_G} {E : Nat → ClassId} (l : Launch) (hx : p.tables.exec = Jvm.exec) (hb : c.code = cL_law) (hml : c.maxLocals = 4) (hown : s.vm.findClass RL = some m.cls) (hts : ∀ w ∈ wsL_law, w.before #[Value.ref b] s = true) (hX : va_X b L xs s s.heap) (hbl : b < s.heap.size) (hK : va_K D vwCl (gT E) s) (hN : gNw s) {Q : State → Prop} {j : Nat} (hj : j + 4 ≤ L) (hL : L ≤ 2048) (hback : ∀ (M1 M2 : gW) (H : Heap) (locs : List Loc) (ls : Array Slot), INV M1 M2 → va_P D vwCl (gL E (adL s.heap.size) LX M1) H → va_P D vwCl (gL E (adL s.heap.size) LM M2) H → va_S (fun q => s.heap.size ≤ q) s.heap H locs → lv_has ls 4 [(0, .ref b), (1, .ref (adL s.heap.size 0 0)), (2, .ref (adL s.heap.size 21 0)), (3, .int (nI j))] → W p l e room_1 s m #[Value.ref b] below meth c H locs 600000 7302250 Q (F0 m 695 ls [])) {M1 M2 : gW} {H : Heap} {locs : List Loc} {ls : Array Slot} (hI : INV M1 M2) (hP1 : va_P D vwCl (gL E (adL s.heap.size) LX M1) H) (hP2 : va_P D vwCl (gL E (adL s.heap.size) LM M2) H) (hS : va_S (fun q => s.heap.size ≤ q) s.heap H locs) (hl : lv_has ls 4 [(0, .ref b), (1, .ref (adL s.heap.size 0 0)), (2, .ref (adL s.heap.size 21 0)), (3, .int (nI j))]) : W p l e room_1 s m #[Value.ref b] below meth c H locs 600000 7302250 Q (F0 m 442 ls []) := by
  have S : CallFix p m c cL_law 4 s #[Value.ref b] wsL_law RL := ⟨hx, hb, hml, hown, hts⟩
  have hbA : ¬ s.heap.size ≤ b := Nat.not_le.mpr hbl
  have i1 : vp_in (nI j + 1) L := by rw [nI_add1]; exact pk_in (j + 1) L (by omega)
  have i2 : vp_in (nI j + 2) L := by rw [show nI j + (2 : Int32) = nI (j + 2) from nI_add j 2]; exact pk_in (j + 2) L (by omega)
  have i3 : vp_in (nI j + 3) L := by rw [show nI j + (3 : Int32) = nI (j + 3) from nI_add j 3]; exact pk_in (j + 3) L (by omega)
  obtain ⟨r, S1, sn1, Sn1, h1, Hs1, t1, n1, hO1, hw1, hw2⟩ := j_letterOf hI ((xs (nI j + (1 : Int32)).toNatClampNeg)) ((xs (nI j + (2 : Int32)).toNatClampNeg))
  refine lv_aload_n hx hb dL_law_442 rfl (lv_at hl 1 rfl) ?_
  refine lv_aload_n hx hb dL_law_443 rfl (lv_at hl 0 rfl) ?_
  refine lv_iload_n hx hb dL_law_444 rfl (lv_at hl 3 rfl) ?_
  refine lv_iconst (v := (1 : Int32)) hx hb dL_law_445 (by decide) ?_
  refine lv_iadd hx hb dL_law_446 ?_
  refine va_sld hx hb hX hbl hbA hS i1 dL_law_447 ?_
  refine lv_aload_n hx hb dL_law_448 rfl (lv_at hl 0 rfl) ?_
  refine lv_iload_n hx hb dL_law_449 rfl (lv_at hl 3 rfl) ?_
  refine lv_iconst (v := (2 : Int32)) hx hb dL_law_450 (by decide) ?_
  refine lv_iadd hx hb dL_law_451 ?_
  refine va_sld hx hb hX hbl hbA hS i2 dL_law_452 ?_
  refine l_V (As := [.int ((xs (nI j + (1 : Int32)).toNatClampNeg)), .int ((xs (nI j + (2 : Int32)).toNatClampNeg))]) (rest := []) (f := 0) (k := 0) (L2 := LM) S hK hN hP1 hP2 (LM_ap s.heap.size) hS (fun q z => z.1) (qX8_letterOf l D E (adL s.heap.size) LX (A1 s.heap.size) (LX_F E s.heap.size) LX_gLx M1 ((xs (nI j + (1 : Int32)).toNatClampNeg)) ((xs (nI j + (2 : Int32)).toNatClampNeg)) _ hw1) (cwV 2 hts gL_law_X8_letterOf rfl rfl rfl eX8_letterOf ⟨(Nat.le_of_ble_eq_true rfl), (Nat.le_of_ble_eq_true rfl)⟩) (LX_gLx.h (f := 0) (by decide)) (gC0 _ _ _ _) gcl8 rfl rfl rfl hl.1 (Nat.le_of_ble_eq_true rfl) ⟨Nat.le_refl _, Nat.le_refl _⟩ dL_law_453 (fun r1 M1 H locs hr1 hP1 hP2 hS => ?_)
  refine lv_aload_n hx hb dL_law_456 rfl (lv_at hl 2 rfl) ?_
  refine lv_aload_n hx hb dL_law_457 rfl (lv_at hl 0 rfl) ?_
  refine lv_iload_n hx hb dL_law_458 rfl (lv_at hl 3 rfl) ?_
  refine lv_iconst (v := (1 : Int32)) hx hb dL_law_459 (by decide) ?_
  refine lv_iadd hx hb dL_law_460 ?_
  refine va_sld hx hb hX hbl hbA hS i1 dL_law_461 ?_
  refine lv_aload_n hx hb dL_law_462 rfl (lv_at hl 0 rfl) ?_
  refine lv_iload_n hx hb dL_law_463 rfl (lv_at hl 3 rfl) ?_
  refine lv_iconst (v := (2 : Int32)) hx hb dL_law_464 (by decide) ?_
  refine lv_iadd hx hb dL_law_465 ?_
  refine va_sld hx hb hX hbl hbA hS i2 dL_law_466 ?_
  refine l_V (As := [.int ((xs (nI j + (1 : Int32)).toNatClampNeg)), .int ((xs (nI j + (2 : Int32)).toNatClampNeg))]) (rest := [.int r1]) (f := 21) (k := 0) (L2 := LX) S hK hN hP2 hP1 (LX_ap s.heap.size) hS (fun q z => Nat.le_trans (Nat.le_add_right _ _) z.1) (qX9_letterOf l D E (adL s.heap.size) LM (A2 s.heap.size) (LM_F E s.heap.size) LM_gLm M2 ((xs (nI j + (1 : Int32)).toNatClampNeg)) ((xs (nI j + (2 : Int32)).toNatClampNeg)) _ hw2) (cwV 2 hts gL_law_X9_letterOf rfl rfl rfl eX9_letterOf ⟨(Nat.le_of_ble_eq_true rfl), (Nat.le_of_ble_eq_true rfl)⟩) (LM_gLm.h (f := 21) (by decide)) (gC21 _ _ _ _) gcl9 rfl rfl rfl hl.1 (Nat.le_of_ble_eq_true rfl) ⟨Nat.le_refl _, Nat.le_refl _⟩ dL_law_467 (fun r2 M2 H locs hr2 hP2 hP1 hS => ?_)
  exact lv_icmp_eq (tgt := 695) hx hb dL_law_470 (by decide) (fun _ => hback M1 M2 H locs ls ⟨S1, sn1, Sn1, h1, Hs1, t1, n1, hO1, hr1.2, hr2.2⟩ hP1 hP2 hS hl) (fun z => absurd (hr1.1.trans hr2.1.symm) z)
set_option maxHeartbeats 4000000 in
set_option maxRecDepth 100000 in
theorem lc_sheet {p : Program} {e : Env} {s : State} {m : MethodId} {below : List Frame} {meth : Method} {c : Code} {b L : Nat} {xs : Nat → Int32} {D : va_G} {E : Nat → ClassId} (l : Launch) (hx : p.tables.exec = Jvm.exec) (hb : c.code = cL_law) (hml : c.maxLocals = 4) (hown : s.vm.findClass RL = some m.cls) (hts : ∀ w ∈ wsL_law, w.before #[Value.ref b] s = true) (hX : va_X b L xs s s.heap) (hbl : b < s.heap.size) (hK : va_K D vwCl (gT E) s) (hN : gNw s) {Q : State → Prop} {j : Nat} (hj : j + 4 ≤ L) (hL : L ≤ 2048) (hback : ∀ (M1 M2 : gW) (H : Heap) (locs : List Loc) (ls : Array Slot), INV M1 M2 → va_P D vwCl (gL E (adL s.heap.size) LX M1) H → va_P D vwCl (gL E (adL s.heap.size) LM M2) H → va_S (fun q => s.heap.size ≤ q) s.heap H locs → lv_has ls 4 [(0, .ref b), (1, .ref (adL s.heap.size 0 0)), (2, .ref (adL s.heap.size 21 0)), (3, .int (nI j))] → W p l e room_1 s m #[Value.ref b] below meth c H locs 600000 7302250 Q (F0 m 695 ls [])) {M1 M2 : gW} {H : Heap} {locs : List Loc} {ls : Array Slot} (hI : INV M1 M2) (hP1 : va_P D vwCl (gL E (adL s.heap.size) LX M1) H) (hP2 : va_P D vwCl (gL E (adL s.heap.size) LM M2) H) (hS : va_S (fun q => s.heap.size ≤ q) s.heap H locs) (hl : lv_has ls 4 [(0, .ref b), (1, .ref (adL s.heap.size 0 0)), (2, .ref (adL s.heap.size 21 0)), (3, .int (nI j))]) : W p l e room_1 s m #[Value.ref b] below meth c H locs 600000 7302250 Q (F0 m 475 ls []) := by
  have S : CallFix p m c cL_law 4 s #[Value.ref b] wsL_law RL := ⟨hx, hb, hml, hown, hts⟩
  have hbA : ¬ s.heap.size ≤ b := Nat.not_le.mpr hbl
  have i1 : vp_in (nI j + 1) L := by rw [nI_add1]; exact pk_in (j + 1) L (by omega)
  have i2 : vp_in (nI j + 2) L := by rw [show nI j + (2 : Int32) = nI (j + 2) from nI_add j 2]; exact pk_in (j + 2) L (by omega)
  have i3 : vp_in (nI j + 3) L := by rw [show nI j + (3 : Int32) = nI (j + 3) from nI_add j 3]; exact pk_in (j + 3) L (by omega)
  obtain ⟨r, S1, sn1, Sn1, h1, Hs1, t1, n1, hO1, hw1, hw2⟩ := j_sheet hI ((xs (nI j + (1 : Int32)).toNatClampNeg)) ((xs (nI j + (2 : Int32)).toNatClampNeg)) ((xs (nI j + (3 : Int32)).toNatClampNeg))
  refine lv_aload_n hx hb dL_law_475 rfl (lv_at hl 1 rfl) ?_
  refine lv_aload_n hx hb dL_law_476 rfl (lv_at hl 0 rfl) ?_
  refine lv_iload_n hx hb dL_law_477 rfl (lv_at hl 3 rfl) ?_
  refine lv_iconst (v := (1 : Int32)) hx hb dL_law_478 (by decide) ?_
  refine lv_iadd hx hb dL_law_479 ?_
  refine va_sld hx hb hX hbl hbA hS i1 dL_law_480 ?_
  refine lv_aload_n hx hb dL_law_481 rfl (lv_at hl 0 rfl) ?_
  refine lv_iload_n hx hb dL_law_482 rfl (lv_at hl 3 rfl) ?_
  refine lv_iconst (v := (2 : Int32)) hx hb dL_law_483 (by decide) ?_
  refine lv_iadd hx hb dL_law_484 ?_
  refine va_sld hx hb hX hbl hbA hS i2 dL_law_485 ?_
  refine lv_aload_n hx hb dL_law_486 rfl (lv_at hl 0 rfl) ?_
  refine lv_iload_n hx hb dL_law_487 rfl (lv_at hl 3 rfl) ?_
  refine lv_iconst (v := (3 : Int32)) hx hb dL_law_488 (by decide) ?_
  refine lv_iadd hx hb dL_law_489 ?_
  refine va_sld hx hb hX hbl hbA hS i3 dL_law_490 ?_
  refine l_V (As := [.int ((xs (nI j + (1 : Int32)).toNatClampNeg)), .int ((xs (nI j + (2 : Int32)).toNatClampNeg)), .int ((xs (nI j + (3 : Int32)).toNatClampNeg))]) (rest := []) (f := 0) (k := 0) (L2 := LM) S hK hN hP1 hP2 (LM_ap s.heap.size) hS (fun q z => z.1) (qX8_sheet l D E (adL s.heap.size) LX (A1 s.heap.size) (LX_F E s.heap.size) LX_gLx M1 ((xs (nI j + (1 : Int32)).toNatClampNeg)) ((xs (nI j + (2 : Int32)).toNatClampNeg)) ((xs (nI j + (3 : Int32)).toNatClampNeg)) _ hw1) (cwV 3 hts gL_law_X8_sheet rfl rfl rfl eX8_sheet ⟨(Nat.le_of_ble_eq_true rfl), (Nat.le_of_ble_eq_true rfl)⟩) (LX_gLx.h (f := 0) (by decide)) (gC0 _ _ _ _) gcl8 rfl rfl rfl hl.1 (Nat.le_of_ble_eq_true rfl) ⟨Nat.le_refl _, Nat.le_refl _⟩ dL_law_491 (fun r1 M1 H locs hr1 hP1 hP2 hS => ?_)
  refine lv_aload_n hx hb dL_law_494 rfl (lv_at hl 2 rfl) ?_
  refine lv_aload_n hx hb dL_law_495 rfl (lv_at hl 0 rfl) ?_
  refine lv_iload_n hx hb dL_law_496 rfl (lv_at hl 3 rfl) ?_
  refine lv_iconst (v := (1 : Int32)) hx hb dL_law_497 (by decide) ?_
  refine lv_iadd hx hb dL_law_498 ?_
  refine va_sld hx hb hX hbl hbA hS i1 dL_law_499 ?_
  refine lv_aload_n hx hb dL_law_500 rfl (lv_at hl 0 rfl) ?_
  refine lv_iload_n hx hb dL_law_501 rfl (lv_at hl 3 rfl) ?_
  refine lv_iconst (v := (2 : Int32)) hx hb dL_law_502 (by decide) ?_
  refine lv_iadd hx hb dL_law_503 ?_
  refine va_sld hx hb hX hbl hbA hS i2 dL_law_504 ?_
  refine lv_aload_n hx hb dL_law_505 rfl (lv_at hl 0 rfl) ?_
  refine lv_iload_n hx hb dL_law_506 rfl (lv_at hl 3 rfl) ?_
  refine lv_iconst (v := (3 : Int32)) hx hb dL_law_507 (by decide) ?_
  refine lv_iadd hx hb dL_law_508 ?_
  refine va_sld hx hb hX hbl hbA hS i3 dL_law_509 ?_
  refine l_V (As := [.int ((xs (nI j + (1 : Int32)).toNatClampNeg)), .int ((xs (nI j + (2 : Int32)).toNatClampNeg)), .int ((xs (nI j + (3 : Int32)).toNatClampNeg))]) (rest := [.int r1]) (f := 21) (k := 0) (L2 := LX) S hK hN hP2 hP1 (LX_ap s.heap.size) hS (fun q z => Nat.le_trans (Nat.le_add_right _ _) z.1) (qX9_sheet l D E (adL s.heap.size) LM (A2 s.heap.size) (LM_F E s.heap.size) LM_gLm M2 ((xs (nI j + (1 : Int32)).toNatClampNeg)) ((xs (nI j + (2 : Int32)).toNatClampNeg)) ((xs (nI j + (3 : Int32)).toNatClampNeg)) _ hw2) (cwV 3 hts gL_law_X9_sheet rfl rfl rfl eX9_sheet ⟨(Nat.le_of_ble_eq_true rfl), (Nat.le_of_ble_eq_true rfl)⟩) (LM_gLm.h (f := 21) (by decide)) (gC21 _ _ _ _) gcl9 rfl rfl rfl hl.1 (Nat.le_of_ble_eq_true rfl) ⟨Nat.le_refl _, Nat.le_refl _⟩ dL_law_510 (fun r2 M2 H locs hr2 hP2 hP1 hS => ?_)
  exact lv_icmp_eq (tgt := 695) hx hb dL_law_513 (by decide) (fun _ => hback M1 M2 H locs ls ⟨S1, sn1, Sn1, h1, Hs1, t1, n1, hO1, hr1.2, hr2.2⟩ hP1 hP2 hS hl) (fun z => absurd (hr1.1.trans hr2.1.symm) z)
set_option maxHeartbeats 4000000 in
set_option maxRecDepth 100000 in
theorem lc_covers {p : Program} {e : Env} {s : State} {m : MethodId} {below : List Frame} {meth : Method} {c : Code} {b L : Nat} {xs : Nat → Int32} {D : va_G} {E : Nat → ClassId} (l : Launch) (hx : p.tables.exec = Jvm.exec) (hb : c.code = cL_law) (hml : c.maxLocals = 4) (hown : s.vm.findClass RL = some m.cls) (hts : ∀ w ∈ wsL_law, w.before #[Value.ref b] s = true) (hX : va_X b L xs s s.heap) (hbl : b < s.heap.size) (hK : va_K D vwCl (gT E) s) (hN : gNw s) {Q : State → Prop} {j : Nat} (hj : j + 4 ≤ L) (hL : L ≤ 2048) (hback : ∀ (M1 M2 : gW) (H : Heap) (locs : List Loc) (ls : Array Slot), INV M1 M2 → va_P D vwCl (gL E (adL s.heap.size) LX M1) H → va_P D vwCl (gL E (adL s.heap.size) LM M2) H → va_S (fun q => s.heap.size ≤ q) s.heap H locs → lv_has ls 4 [(0, .ref b), (1, .ref (adL s.heap.size 0 0)), (2, .ref (adL s.heap.size 21 0)), (3, .int (nI j))] → W p l e room_1 s m #[Value.ref b] below meth c H locs 600000 7302250 Q (F0 m 695 ls [])) {M1 M2 : gW} {H : Heap} {locs : List Loc} {ls : Array Slot} (hI : INV M1 M2) (hP1 : va_P D vwCl (gL E (adL s.heap.size) LX M1) H) (hP2 : va_P D vwCl (gL E (adL s.heap.size) LM M2) H) (hS : va_S (fun q => s.heap.size ≤ q) s.heap H locs) (hl : lv_has ls 4 [(0, .ref b), (1, .ref (adL s.heap.size 0 0)), (2, .ref (adL s.heap.size 21 0)), (3, .int (nI j))]) : W p l e room_1 s m #[Value.ref b] below meth c H locs 600000 7302250 Q (F0 m 518 ls []) := by
  have S : CallFix p m c cL_law 4 s #[Value.ref b] wsL_law RL := ⟨hx, hb, hml, hown, hts⟩
  have hbA : ¬ s.heap.size ≤ b := Nat.not_le.mpr hbl
  have i1 : vp_in (nI j + 1) L := by rw [nI_add1]; exact pk_in (j + 1) L (by omega)
  have i2 : vp_in (nI j + 2) L := by rw [show nI j + (2 : Int32) = nI (j + 2) from nI_add j 2]; exact pk_in (j + 2) L (by omega)
  have i3 : vp_in (nI j + 3) L := by rw [show nI j + (3 : Int32) = nI (j + 3) from nI_add j 3]; exact pk_in (j + 3) L (by omega)
  obtain ⟨r, S1, sn1, Sn1, h1, Hs1, t1, n1, hO1, hw1, hw2⟩ := j_covers hI ((xs (nI j + (1 : Int32)).toNatClampNeg)) ((xs (nI j + (2 : Int32)).toNatClampNeg))
  refine lv_aload_n hx hb dL_law_518 rfl (lv_at hl 1 rfl) ?_
  refine lv_aload_n hx hb dL_law_519 rfl (lv_at hl 0 rfl) ?_
  refine lv_iload_n hx hb dL_law_520 rfl (lv_at hl 3 rfl) ?_
  refine lv_iconst (v := (1 : Int32)) hx hb dL_law_521 (by decide) ?_
  refine lv_iadd hx hb dL_law_522 ?_
  refine va_sld hx hb hX hbl hbA hS i1 dL_law_523 ?_
  refine lv_aload_n hx hb dL_law_524 rfl (lv_at hl 0 rfl) ?_
  refine lv_iload_n hx hb dL_law_525 rfl (lv_at hl 3 rfl) ?_
  refine lv_iconst (v := (2 : Int32)) hx hb dL_law_526 (by decide) ?_
  refine lv_iadd hx hb dL_law_527 ?_
  refine va_sld hx hb hX hbl hbA hS i2 dL_law_528 ?_
  refine l_V (As := [.int ((xs (nI j + (1 : Int32)).toNatClampNeg)), .int ((xs (nI j + (2 : Int32)).toNatClampNeg))]) (rest := []) (f := 0) (k := 0) (L2 := LM) S hK hN hP1 hP2 (LM_ap s.heap.size) hS (fun q z => z.1) (qX8_covers l D E (adL s.heap.size) LX (A1 s.heap.size) (LX_F E s.heap.size) LX_gLx M1 ((xs (nI j + (1 : Int32)).toNatClampNeg)) ((xs (nI j + (2 : Int32)).toNatClampNeg)) _ hw1) (cwV 2 hts gL_law_X8_covers rfl rfl rfl eX8_covers ⟨(Nat.le_of_ble_eq_true rfl), (Nat.le_of_ble_eq_true rfl)⟩) (LX_gLx.h (f := 0) (by decide)) (gC0 _ _ _ _) gcl8 rfl rfl rfl hl.1 (Nat.le_of_ble_eq_true rfl) ⟨Nat.le_refl _, Nat.le_refl _⟩ dL_law_529 (fun r1 M1 H locs hr1 hP1 hP2 hS => ?_)
  refine lv_aload_n hx hb dL_law_532 rfl (lv_at hl 2 rfl) ?_
  refine lv_aload_n hx hb dL_law_533 rfl (lv_at hl 0 rfl) ?_
  refine lv_iload_n hx hb dL_law_534 rfl (lv_at hl 3 rfl) ?_
  refine lv_iconst (v := (1 : Int32)) hx hb dL_law_535 (by decide) ?_
  refine lv_iadd hx hb dL_law_536 ?_
  refine va_sld hx hb hX hbl hbA hS i1 dL_law_537 ?_
  refine lv_aload_n hx hb dL_law_538 rfl (lv_at hl 0 rfl) ?_
  refine lv_iload_n hx hb dL_law_539 rfl (lv_at hl 3 rfl) ?_
  refine lv_iconst (v := (2 : Int32)) hx hb dL_law_540 (by decide) ?_
  refine lv_iadd hx hb dL_law_541 ?_
  refine va_sld hx hb hX hbl hbA hS i2 dL_law_542 ?_
  refine l_V (As := [.int ((xs (nI j + (1 : Int32)).toNatClampNeg)), .int ((xs (nI j + (2 : Int32)).toNatClampNeg))]) (rest := [.int r1]) (f := 21) (k := 0) (L2 := LX) S hK hN hP2 hP1 (LX_ap s.heap.size) hS (fun q z => Nat.le_trans (Nat.le_add_right _ _) z.1) (qX9_covers l D E (adL s.heap.size) LM (A2 s.heap.size) (LM_F E s.heap.size) LM_gLm M2 ((xs (nI j + (1 : Int32)).toNatClampNeg)) ((xs (nI j + (2 : Int32)).toNatClampNeg)) _ hw2) (cwV 2 hts gL_law_X9_covers rfl rfl rfl eX9_covers ⟨(Nat.le_of_ble_eq_true rfl), (Nat.le_of_ble_eq_true rfl)⟩) (LM_gLm.h (f := 21) (by decide)) (gC21 _ _ _ _) gcl9 rfl rfl rfl hl.1 (Nat.le_of_ble_eq_true rfl) ⟨Nat.le_refl _, Nat.le_refl _⟩ dL_law_543 (fun r2 M2 H locs hr2 hP2 hP1 hS => ?_)
  exact lv_icmp_eq (tgt := 695) hx hb dL_law_546 (by decide) (fun _ => hback M1 M2 H locs ls ⟨S1, sn1, Sn1, h1, Hs1, t1, n1, hO1, hr1.2, hr2.2⟩ hP1 hP2 hS hl) (fun z => absurd (hr1.1.trans hr2.1.symm) z)
set_option maxHeartbeats 4000000 in
set_option maxRecDepth 100000 in
theorem lc_worst {p : Program} {e : Env} {s : State} {m : MethodId} {below : List Frame} {meth : Method} {c : Code} {b L : Nat} {xs : Nat → Int32} {D : va_G} {E : Nat → ClassId} (l : Launch) (hx : p.tables.exec = Jvm.exec) (hb : c.code = cL_law) (hml : c.maxLocals = 4) (hown : s.vm.findClass RL = some m.cls) (hts : ∀ w ∈ wsL_law, w.before #[Value.ref b] s = true) (hX : va_X b L xs s s.heap) (hbl : b < s.heap.size) (hK : va_K D vwCl (gT E) s) (hN : gNw s) {Q : State → Prop} {j : Nat} (hj : j + 4 ≤ L) (hL : L ≤ 2048) (hback : ∀ (M1 M2 : gW) (H : Heap) (locs : List Loc) (ls : Array Slot), INV M1 M2 → va_P D vwCl (gL E (adL s.heap.size) LX M1) H → va_P D vwCl (gL E (adL s.heap.size) LM M2) H → va_S (fun q => s.heap.size ≤ q) s.heap H locs → lv_has ls 4 [(0, .ref b), (1, .ref (adL s.heap.size 0 0)), (2, .ref (adL s.heap.size 21 0)), (3, .int (nI j))] → W p l e room_1 s m #[Value.ref b] below meth c H locs 600000 7302250 Q (F0 m 695 ls [])) {M1 M2 : gW} {H : Heap} {locs : List Loc} {ls : Array Slot} (hI : INV M1 M2) (hP1 : va_P D vwCl (gL E (adL s.heap.size) LX M1) H) (hP2 : va_P D vwCl (gL E (adL s.heap.size) LM M2) H) (hS : va_S (fun q => s.heap.size ≤ q) s.heap H locs) (hl : lv_has ls 4 [(0, .ref b), (1, .ref (adL s.heap.size 0 0)), (2, .ref (adL s.heap.size 21 0)), (3, .int (nI j))]) : W p l e room_1 s m #[Value.ref b] below meth c H locs 600000 7302250 Q (F0 m 551 ls []) := by
  have S : CallFix p m c cL_law 4 s #[Value.ref b] wsL_law RL := ⟨hx, hb, hml, hown, hts⟩
  have hbA : ¬ s.heap.size ≤ b := Nat.not_le.mpr hbl
  have i1 : vp_in (nI j + 1) L := by rw [nI_add1]; exact pk_in (j + 1) L (by omega)
  have i2 : vp_in (nI j + 2) L := by rw [show nI j + (2 : Int32) = nI (j + 2) from nI_add j 2]; exact pk_in (j + 2) L (by omega)
  have i3 : vp_in (nI j + 3) L := by rw [show nI j + (3 : Int32) = nI (j + 3) from nI_add j 3]; exact pk_in (j + 3) L (by omega)
  by_cases hz : (xs (nI j + (1 : Int32)).toNatClampNeg) = 0
  · have hz := hz
    obtain ⟨r, S1, sn1, Sn1, h1, Hs1, t1, n1, hO1, hw1, hw2⟩ := j_worst hI (0) ((xs (nI j + (2 : Int32)).toNatClampNeg))
    refine lv_aload_n hx hb dL_law_551 rfl (lv_at hl 1 rfl) ?_
    refine lv_aload_n hx hb dL_law_552 rfl (lv_at hl 0 rfl) ?_
    refine lv_iload_n hx hb dL_law_553 rfl (lv_at hl 3 rfl) ?_
    refine lv_iconst (v := (1 : Int32)) hx hb dL_law_554 (by decide) ?_
    refine lv_iadd hx hb dL_law_555 ?_
    refine va_sld hx hb hX hbl hbA hS i1 dL_law_556 ?_
    refine lv_if_eq (tgt := 564) hx hb dL_law_557 (by decide) (fun _ => ?_) (fun z => absurd hz z)
    refine lv_iconst (v := (0 : Int32)) hx hb dL_law_564 (by decide) ?_
    refine lv_aload_n hx hb dL_law_565 rfl (lv_at hl 0 rfl) ?_
    refine lv_iload_n hx hb dL_law_566 rfl (lv_at hl 3 rfl) ?_
    refine lv_iconst (v := (2 : Int32)) hx hb dL_law_567 (by decide) ?_
    refine lv_iadd hx hb dL_law_568 ?_
    refine va_sld hx hb hX hbl hbA hS i2 dL_law_569 ?_
    refine l_V (As := [.int (0), .int ((xs (nI j + (2 : Int32)).toNatClampNeg))]) (rest := []) (f := 0) (k := 0) (L2 := LM) S hK hN hP1 hP2 (LM_ap s.heap.size) hS (fun q z => z.1) (qX8_worst l D E (adL s.heap.size) LX (A1 s.heap.size) (LX_F E s.heap.size) LX_gLx M1 (0) ((xs (nI j + (2 : Int32)).toNatClampNeg)) _ hw1) (cwV 2 hts gL_law_X8_worst rfl rfl rfl eX8_worst ⟨(Nat.le_of_ble_eq_true rfl), (Nat.le_of_ble_eq_true rfl)⟩) (LX_gLx.h (f := 0) (by decide)) (gC0 _ _ _ _) gcl8 rfl rfl rfl hl.1 (Nat.le_of_ble_eq_true rfl) ⟨Nat.le_refl _, Nat.le_refl _⟩ dL_law_570 (fun r1 M1 H locs hr1 hP1 hP2 hS => ?_)
    refine lv_aload_n hx hb dL_law_573 rfl (lv_at hl 2 rfl) ?_
    refine lv_aload_n hx hb dL_law_574 rfl (lv_at hl 0 rfl) ?_
    refine lv_iload_n hx hb dL_law_575 rfl (lv_at hl 3 rfl) ?_
    refine lv_iconst (v := (1 : Int32)) hx hb dL_law_576 (by decide) ?_
    refine lv_iadd hx hb dL_law_577 ?_
    refine va_sld hx hb hX hbl hbA hS i1 dL_law_578 ?_
    refine lv_if_eq (tgt := 586) hx hb dL_law_579 (by decide) (fun _ => ?_) (fun z => absurd hz z)
    refine lv_iconst (v := (0 : Int32)) hx hb dL_law_586 (by decide) ?_
    refine lv_aload_n hx hb dL_law_587 rfl (lv_at hl 0 rfl) ?_
    refine lv_iload_n hx hb dL_law_588 rfl (lv_at hl 3 rfl) ?_
    refine lv_iconst (v := (2 : Int32)) hx hb dL_law_589 (by decide) ?_
    refine lv_iadd hx hb dL_law_590 ?_
    refine va_sld hx hb hX hbl hbA hS i2 dL_law_591 ?_
    refine l_V (As := [.int (0), .int ((xs (nI j + (2 : Int32)).toNatClampNeg))]) (rest := [.int r1]) (f := 21) (k := 0) (L2 := LX) S hK hN hP2 hP1 (LX_ap s.heap.size) hS (fun q z => Nat.le_trans (Nat.le_add_right _ _) z.1) (qX9_worst l D E (adL s.heap.size) LM (A2 s.heap.size) (LM_F E s.heap.size) LM_gLm M2 (0) ((xs (nI j + (2 : Int32)).toNatClampNeg)) _ hw2) (cwV 2 hts gL_law_X9_worst rfl rfl rfl eX9_worst ⟨(Nat.le_of_ble_eq_true rfl), (Nat.le_of_ble_eq_true rfl)⟩) (LM_gLm.h (f := 21) (by decide)) (gC21 _ _ _ _) gcl9 rfl rfl rfl hl.1 (Nat.le_of_ble_eq_true rfl) ⟨Nat.le_refl _, Nat.le_refl _⟩ dL_law_592 (fun r2 M2 H locs hr2 hP2 hP1 hS => ?_)
    exact lv_icmp_eq (tgt := 695) hx hb dL_law_595 (by decide) (fun _ => hback M1 M2 H locs ls ⟨S1, sn1, Sn1, h1, Hs1, t1, n1, hO1, hr1.2, hr2.2⟩ hP1 hP2 hS hl) (fun z => absurd (hr1.1.trans hr2.1.symm) z)
  · have hz := hz
    obtain ⟨r, S1, sn1, Sn1, h1, Hs1, t1, n1, hO1, hw1, hw2⟩ := j_worst hI (1) ((xs (nI j + (2 : Int32)).toNatClampNeg))
    refine lv_aload_n hx hb dL_law_551 rfl (lv_at hl 1 rfl) ?_
    refine lv_aload_n hx hb dL_law_552 rfl (lv_at hl 0 rfl) ?_
    refine lv_iload_n hx hb dL_law_553 rfl (lv_at hl 3 rfl) ?_
    refine lv_iconst (v := (1 : Int32)) hx hb dL_law_554 (by decide) ?_
    refine lv_iadd hx hb dL_law_555 ?_
    refine va_sld hx hb hX hbl hbA hS i1 dL_law_556 ?_
    refine lv_if_eq (tgt := 564) hx hb dL_law_557 (by decide) (fun z => absurd z hz) (fun _ => ?_)
    refine lv_iconst (v := (1 : Int32)) hx hb dL_law_560 (by decide) ?_
    refine lv_goto (tgt := 565) hx hb dL_law_561 (by decide) ?_
    refine lv_aload_n hx hb dL_law_565 rfl (lv_at hl 0 rfl) ?_
    refine lv_iload_n hx hb dL_law_566 rfl (lv_at hl 3 rfl) ?_
    refine lv_iconst (v := (2 : Int32)) hx hb dL_law_567 (by decide) ?_
    refine lv_iadd hx hb dL_law_568 ?_
    refine va_sld hx hb hX hbl hbA hS i2 dL_law_569 ?_
    refine l_V (As := [.int (1), .int ((xs (nI j + (2 : Int32)).toNatClampNeg))]) (rest := []) (f := 0) (k := 0) (L2 := LM) S hK hN hP1 hP2 (LM_ap s.heap.size) hS (fun q z => z.1) (qX8_worst l D E (adL s.heap.size) LX (A1 s.heap.size) (LX_F E s.heap.size) LX_gLx M1 (1) ((xs (nI j + (2 : Int32)).toNatClampNeg)) _ hw1) (cwV 2 hts gL_law_X8_worst rfl rfl rfl eX8_worst ⟨(Nat.le_of_ble_eq_true rfl), (Nat.le_of_ble_eq_true rfl)⟩) (LX_gLx.h (f := 0) (by decide)) (gC0 _ _ _ _) gcl8 rfl rfl rfl hl.1 (Nat.le_of_ble_eq_true rfl) ⟨Nat.le_refl _, Nat.le_refl _⟩ dL_law_570 (fun r1 M1 H locs hr1 hP1 hP2 hS => ?_)
    refine lv_aload_n hx hb dL_law_573 rfl (lv_at hl 2 rfl) ?_
    refine lv_aload_n hx hb dL_law_574 rfl (lv_at hl 0 rfl) ?_
    refine lv_iload_n hx hb dL_law_575 rfl (lv_at hl 3 rfl) ?_
    refine lv_iconst (v := (1 : Int32)) hx hb dL_law_576 (by decide) ?_
    refine lv_iadd hx hb dL_law_577 ?_
    refine va_sld hx hb hX hbl hbA hS i1 dL_law_578 ?_
    refine lv_if_eq (tgt := 586) hx hb dL_law_579 (by decide) (fun z => absurd z hz) (fun _ => ?_)
    refine lv_iconst (v := (1 : Int32)) hx hb dL_law_582 (by decide) ?_
    refine lv_goto (tgt := 587) hx hb dL_law_583 (by decide) ?_
    refine lv_aload_n hx hb dL_law_587 rfl (lv_at hl 0 rfl) ?_
    refine lv_iload_n hx hb dL_law_588 rfl (lv_at hl 3 rfl) ?_
    refine lv_iconst (v := (2 : Int32)) hx hb dL_law_589 (by decide) ?_
    refine lv_iadd hx hb dL_law_590 ?_
    refine va_sld hx hb hX hbl hbA hS i2 dL_law_591 ?_
    refine l_V (As := [.int (1), .int ((xs (nI j + (2 : Int32)).toNatClampNeg))]) (rest := [.int r1]) (f := 21) (k := 0) (L2 := LX) S hK hN hP2 hP1 (LX_ap s.heap.size) hS (fun q z => Nat.le_trans (Nat.le_add_right _ _) z.1) (qX9_worst l D E (adL s.heap.size) LM (A2 s.heap.size) (LM_F E s.heap.size) LM_gLm M2 (1) ((xs (nI j + (2 : Int32)).toNatClampNeg)) _ hw2) (cwV 2 hts gL_law_X9_worst rfl rfl rfl eX9_worst ⟨(Nat.le_of_ble_eq_true rfl), (Nat.le_of_ble_eq_true rfl)⟩) (LM_gLm.h (f := 21) (by decide)) (gC21 _ _ _ _) gcl9 rfl rfl rfl hl.1 (Nat.le_of_ble_eq_true rfl) ⟨Nat.le_refl _, Nat.le_refl _⟩ dL_law_592 (fun r2 M2 H locs hr2 hP2 hP1 hS => ?_)
    exact lv_icmp_eq (tgt := 695) hx hb dL_law_595 (by decide) (fun _ => hback M1 M2 H locs ls ⟨S1, sn1, Sn1, h1, Hs1, t1, n1, hO1, hr1.2, hr2.2⟩ hP1 hP2 hS hl) (fun z => absurd (hr1.1.trans hr2.1.symm) z)
set_option maxHeartbeats 4000000 in
set_option maxRecDepth 100000 in
theorem lc_missing {p : Program} {e : Env} {s : State} {m : MethodId} {below : List Frame} {meth : Method} {c : Code} {b L : Nat} {xs : Nat → Int32} {D : va_G} {E : Nat → ClassId} (l : Launch) (hx : p.tables.exec = Jvm.exec) (hb : c.code = cL_law) (hml : c.maxLocals = 4) (hown : s.vm.findClass RL = some m.cls) (hts : ∀ w ∈ wsL_law, w.before #[Value.ref b] s = true) (hX : va_X b L xs s s.heap) (hbl : b < s.heap.size) (hK : va_K D vwCl (gT E) s) (hN : gNw s) {Q : State → Prop} {j : Nat} (hj : j + 4 ≤ L) (hL : L ≤ 2048) (hback : ∀ (M1 M2 : gW) (H : Heap) (locs : List Loc) (ls : Array Slot), INV M1 M2 → va_P D vwCl (gL E (adL s.heap.size) LX M1) H → va_P D vwCl (gL E (adL s.heap.size) LM M2) H → va_S (fun q => s.heap.size ≤ q) s.heap H locs → lv_has ls 4 [(0, .ref b), (1, .ref (adL s.heap.size 0 0)), (2, .ref (adL s.heap.size 21 0)), (3, .int (nI j))] → W p l e room_1 s m #[Value.ref b] below meth c H locs 600000 7302250 Q (F0 m 695 ls [])) {M1 M2 : gW} {H : Heap} {locs : List Loc} {ls : Array Slot} (hI : INV M1 M2) (hP1 : va_P D vwCl (gL E (adL s.heap.size) LX M1) H) (hP2 : va_P D vwCl (gL E (adL s.heap.size) LM M2) H) (hS : va_S (fun q => s.heap.size ≤ q) s.heap H locs) (hl : lv_has ls 4 [(0, .ref b), (1, .ref (adL s.heap.size 0 0)), (2, .ref (adL s.heap.size 21 0)), (3, .int (nI j))]) : W p l e room_1 s m #[Value.ref b] below meth c H locs 600000 7302250 Q (F0 m 600 ls []) := by
  have S : CallFix p m c cL_law 4 s #[Value.ref b] wsL_law RL := ⟨hx, hb, hml, hown, hts⟩
  have hbA : ¬ s.heap.size ≤ b := Nat.not_le.mpr hbl
  have i1 : vp_in (nI j + 1) L := by rw [nI_add1]; exact pk_in (j + 1) L (by omega)
  have i2 : vp_in (nI j + 2) L := by rw [show nI j + (2 : Int32) = nI (j + 2) from nI_add j 2]; exact pk_in (j + 2) L (by omega)
  have i3 : vp_in (nI j + 3) L := by rw [show nI j + (3 : Int32) = nI (j + 3) from nI_add j 3]; exact pk_in (j + 3) L (by omega)
  by_cases hz : (xs (nI j + (1 : Int32)).toNatClampNeg) = 0
  · have hz := hz
    obtain ⟨r, S1, sn1, Sn1, h1, Hs1, t1, n1, hO1, hw1, hw2⟩ := j_missing hI (0)
    refine lv_aload_n hx hb dL_law_600 rfl (lv_at hl 1 rfl) ?_
    refine lv_aload_n hx hb dL_law_601 rfl (lv_at hl 0 rfl) ?_
    refine lv_iload_n hx hb dL_law_602 rfl (lv_at hl 3 rfl) ?_
    refine lv_iconst (v := (1 : Int32)) hx hb dL_law_603 (by decide) ?_
    refine lv_iadd hx hb dL_law_604 ?_
    refine va_sld hx hb hX hbl hbA hS i1 dL_law_605 ?_
    refine lv_if_eq (tgt := 613) hx hb dL_law_606 (by decide) (fun _ => ?_) (fun z => absurd hz z)
    refine lv_iconst (v := (0 : Int32)) hx hb dL_law_613 (by decide) ?_
    refine l_V (As := [.int (0)]) (rest := []) (f := 0) (k := 0) (L2 := LM) S hK hN hP1 hP2 (LM_ap s.heap.size) hS (fun q z => z.1) (qX8_missing l D E (adL s.heap.size) LX (A1 s.heap.size) (LX_F E s.heap.size) LX_gLx M1 (0) _ hw1) (cwV 1 hts gL_law_X8_missing rfl rfl rfl eX8_missing ⟨(Nat.le_of_ble_eq_true rfl), (Nat.le_of_ble_eq_true rfl)⟩) (LX_gLx.h (f := 0) (by decide)) (gC0 _ _ _ _) gcl8 rfl rfl rfl hl.1 (Nat.le_of_ble_eq_true rfl) ⟨Nat.le_refl _, Nat.le_refl _⟩ dL_law_614 (fun r1 M1 H locs hr1 hP1 hP2 hS => ?_)
    refine lv_aload_n hx hb dL_law_617 rfl (lv_at hl 2 rfl) ?_
    refine lv_aload_n hx hb dL_law_618 rfl (lv_at hl 0 rfl) ?_
    refine lv_iload_n hx hb dL_law_619 rfl (lv_at hl 3 rfl) ?_
    refine lv_iconst (v := (1 : Int32)) hx hb dL_law_620 (by decide) ?_
    refine lv_iadd hx hb dL_law_621 ?_
    refine va_sld hx hb hX hbl hbA hS i1 dL_law_622 ?_
    refine lv_if_eq (tgt := 630) hx hb dL_law_623 (by decide) (fun _ => ?_) (fun z => absurd hz z)
    refine lv_iconst (v := (0 : Int32)) hx hb dL_law_630 (by decide) ?_
    refine l_V (As := [.int (0)]) (rest := [.int r1]) (f := 21) (k := 0) (L2 := LX) S hK hN hP2 hP1 (LX_ap s.heap.size) hS (fun q z => Nat.le_trans (Nat.le_add_right _ _) z.1) (qX9_missing l D E (adL s.heap.size) LM (A2 s.heap.size) (LM_F E s.heap.size) LM_gLm M2 (0) _ hw2) (cwV 1 hts gL_law_X9_missing rfl rfl rfl eX9_missing ⟨(Nat.le_of_ble_eq_true rfl), (Nat.le_of_ble_eq_true rfl)⟩) (LM_gLm.h (f := 21) (by decide)) (gC21 _ _ _ _) gcl9 rfl rfl rfl hl.1 (Nat.le_of_ble_eq_true rfl) ⟨Nat.le_refl _, Nat.le_refl _⟩ dL_law_631 (fun r2 M2 H locs hr2 hP2 hP1 hS => ?_)
    exact lv_icmp_eq (tgt := 695) hx hb dL_law_634 (by decide) (fun _ => hback M1 M2 H locs ls ⟨S1, sn1, Sn1, h1, Hs1, t1, n1, hO1, hr1.2, hr2.2⟩ hP1 hP2 hS hl) (fun z => absurd (hr1.1.trans hr2.1.symm) z)
  · have hz := hz
    obtain ⟨r, S1, sn1, Sn1, h1, Hs1, t1, n1, hO1, hw1, hw2⟩ := j_missing hI (1)
    refine lv_aload_n hx hb dL_law_600 rfl (lv_at hl 1 rfl) ?_
    refine lv_aload_n hx hb dL_law_601 rfl (lv_at hl 0 rfl) ?_
    refine lv_iload_n hx hb dL_law_602 rfl (lv_at hl 3 rfl) ?_
    refine lv_iconst (v := (1 : Int32)) hx hb dL_law_603 (by decide) ?_
    refine lv_iadd hx hb dL_law_604 ?_
    refine va_sld hx hb hX hbl hbA hS i1 dL_law_605 ?_
    refine lv_if_eq (tgt := 613) hx hb dL_law_606 (by decide) (fun z => absurd z hz) (fun _ => ?_)
    refine lv_iconst (v := (1 : Int32)) hx hb dL_law_609 (by decide) ?_
    refine lv_goto (tgt := 614) hx hb dL_law_610 (by decide) ?_
    refine l_V (As := [.int (1)]) (rest := []) (f := 0) (k := 0) (L2 := LM) S hK hN hP1 hP2 (LM_ap s.heap.size) hS (fun q z => z.1) (qX8_missing l D E (adL s.heap.size) LX (A1 s.heap.size) (LX_F E s.heap.size) LX_gLx M1 (1) _ hw1) (cwV 1 hts gL_law_X8_missing rfl rfl rfl eX8_missing ⟨(Nat.le_of_ble_eq_true rfl), (Nat.le_of_ble_eq_true rfl)⟩) (LX_gLx.h (f := 0) (by decide)) (gC0 _ _ _ _) gcl8 rfl rfl rfl hl.1 (Nat.le_of_ble_eq_true rfl) ⟨Nat.le_refl _, Nat.le_refl _⟩ dL_law_614 (fun r1 M1 H locs hr1 hP1 hP2 hS => ?_)
    refine lv_aload_n hx hb dL_law_617 rfl (lv_at hl 2 rfl) ?_
    refine lv_aload_n hx hb dL_law_618 rfl (lv_at hl 0 rfl) ?_
    refine lv_iload_n hx hb dL_law_619 rfl (lv_at hl 3 rfl) ?_
    refine lv_iconst (v := (1 : Int32)) hx hb dL_law_620 (by decide) ?_
    refine lv_iadd hx hb dL_law_621 ?_
    refine va_sld hx hb hX hbl hbA hS i1 dL_law_622 ?_
    refine lv_if_eq (tgt := 630) hx hb dL_law_623 (by decide) (fun z => absurd z hz) (fun _ => ?_)
    refine lv_iconst (v := (1 : Int32)) hx hb dL_law_626 (by decide) ?_
    refine lv_goto (tgt := 631) hx hb dL_law_627 (by decide) ?_
    refine l_V (As := [.int (1)]) (rest := [.int r1]) (f := 21) (k := 0) (L2 := LX) S hK hN hP2 hP1 (LX_ap s.heap.size) hS (fun q z => Nat.le_trans (Nat.le_add_right _ _) z.1) (qX9_missing l D E (adL s.heap.size) LM (A2 s.heap.size) (LM_F E s.heap.size) LM_gLm M2 (1) _ hw2) (cwV 1 hts gL_law_X9_missing rfl rfl rfl eX9_missing ⟨(Nat.le_of_ble_eq_true rfl), (Nat.le_of_ble_eq_true rfl)⟩) (LM_gLm.h (f := 21) (by decide)) (gC21 _ _ _ _) gcl9 rfl rfl rfl hl.1 (Nat.le_of_ble_eq_true rfl) ⟨Nat.le_refl _, Nat.le_refl _⟩ dL_law_631 (fun r2 M2 H locs hr2 hP2 hP1 hS => ?_)
    exact lv_icmp_eq (tgt := 695) hx hb dL_law_634 (by decide) (fun _ => hback M1 M2 H locs ls ⟨S1, sn1, Sn1, h1, Hs1, t1, n1, hO1, hr1.2, hr2.2⟩ hP1 hP2 hS hl) (fun z => absurd (hr1.1.trans hr2.1.symm) z)
set_option maxHeartbeats 4000000 in
set_option maxRecDepth 100000 in
theorem lc_sheetsTo {p : Program} {e : Env} {s : State} {m : MethodId} {below : List Frame} {meth : Method} {c : Code} {b L : Nat} {xs : Nat → Int32} {D : va_G} {E : Nat → ClassId} (l : Launch) (hx : p.tables.exec = Jvm.exec) (hb : c.code = cL_law) (hml : c.maxLocals = 4) (hown : s.vm.findClass RL = some m.cls) (hts : ∀ w ∈ wsL_law, w.before #[Value.ref b] s = true) (hX : va_X b L xs s s.heap) (hbl : b < s.heap.size) (hK : va_K D vwCl (gT E) s) (hN : gNw s) {Q : State → Prop} {j : Nat} (hj : j + 4 ≤ L) (hL : L ≤ 2048) (hback : ∀ (M1 M2 : gW) (H : Heap) (locs : List Loc) (ls : Array Slot), INV M1 M2 → va_P D vwCl (gL E (adL s.heap.size) LX M1) H → va_P D vwCl (gL E (adL s.heap.size) LM M2) H → va_S (fun q => s.heap.size ≤ q) s.heap H locs → lv_has ls 4 [(0, .ref b), (1, .ref (adL s.heap.size 0 0)), (2, .ref (adL s.heap.size 21 0)), (3, .int (nI j))] → W p l e room_1 s m #[Value.ref b] below meth c H locs 600000 7302250 Q (F0 m 695 ls [])) {M1 M2 : gW} {H : Heap} {locs : List Loc} {ls : Array Slot} (hI : INV M1 M2) (hP1 : va_P D vwCl (gL E (adL s.heap.size) LX M1) H) (hP2 : va_P D vwCl (gL E (adL s.heap.size) LM M2) H) (hS : va_S (fun q => s.heap.size ≤ q) s.heap H locs) (hl : lv_has ls 4 [(0, .ref b), (1, .ref (adL s.heap.size 0 0)), (2, .ref (adL s.heap.size 21 0)), (3, .int (nI j))]) : W p l e room_1 s m #[Value.ref b] below meth c H locs 600000 7302250 Q (F0 m 639 ls []) := by
  have S : CallFix p m c cL_law 4 s #[Value.ref b] wsL_law RL := ⟨hx, hb, hml, hown, hts⟩
  have hbA : ¬ s.heap.size ≤ b := Nat.not_le.mpr hbl
  have i1 : vp_in (nI j + 1) L := by rw [nI_add1]; exact pk_in (j + 1) L (by omega)
  have i2 : vp_in (nI j + 2) L := by rw [show nI j + (2 : Int32) = nI (j + 2) from nI_add j 2]; exact pk_in (j + 2) L (by omega)
  have i3 : vp_in (nI j + 3) L := by rw [show nI j + (3 : Int32) = nI (j + 3) from nI_add j 3]; exact pk_in (j + 3) L (by omega)
  obtain ⟨r, S1, sn1, Sn1, h1, Hs1, t1, n1, hO1, hw1, hw2⟩ := j_sheetsTo hI ((xs (nI j + (1 : Int32)).toNatClampNeg)) ((xs (nI j + (2 : Int32)).toNatClampNeg))
  refine lv_aload_n hx hb dL_law_639 rfl (lv_at hl 1 rfl) ?_
  refine lv_aload_n hx hb dL_law_640 rfl (lv_at hl 0 rfl) ?_
  refine lv_iload_n hx hb dL_law_641 rfl (lv_at hl 3 rfl) ?_
  refine lv_iconst (v := (1 : Int32)) hx hb dL_law_642 (by decide) ?_
  refine lv_iadd hx hb dL_law_643 ?_
  refine va_sld hx hb hX hbl hbA hS i1 dL_law_644 ?_
  refine lv_aload_n hx hb dL_law_645 rfl (lv_at hl 0 rfl) ?_
  refine lv_iload_n hx hb dL_law_646 rfl (lv_at hl 3 rfl) ?_
  refine lv_iconst (v := (2 : Int32)) hx hb dL_law_647 (by decide) ?_
  refine lv_iadd hx hb dL_law_648 ?_
  refine va_sld hx hb hX hbl hbA hS i2 dL_law_649 ?_
  refine l_V (As := [.int ((xs (nI j + (1 : Int32)).toNatClampNeg)), .int ((xs (nI j + (2 : Int32)).toNatClampNeg))]) (rest := []) (f := 0) (k := 0) (L2 := LM) S hK hN hP1 hP2 (LM_ap s.heap.size) hS (fun q z => z.1) (qX8_sheetsTo l D E (adL s.heap.size) LX (A1 s.heap.size) (LX_F E s.heap.size) LX_gLx M1 ((xs (nI j + (1 : Int32)).toNatClampNeg)) ((xs (nI j + (2 : Int32)).toNatClampNeg)) _ hw1) (cwV 2 hts gL_law_X8_sheetsTo rfl rfl rfl eX8_sheetsTo ⟨(Nat.le_of_ble_eq_true rfl), (Nat.le_of_ble_eq_true rfl)⟩) (LX_gLx.h (f := 0) (by decide)) (gC0 _ _ _ _) gcl8 rfl rfl rfl hl.1 (Nat.le_of_ble_eq_true rfl) ⟨Nat.le_refl _, Nat.le_refl _⟩ dL_law_650 (fun r1 M1 H locs hr1 hP1 hP2 hS => ?_)
  refine lv_aload_n hx hb dL_law_653 rfl (lv_at hl 2 rfl) ?_
  refine lv_aload_n hx hb dL_law_654 rfl (lv_at hl 0 rfl) ?_
  refine lv_iload_n hx hb dL_law_655 rfl (lv_at hl 3 rfl) ?_
  refine lv_iconst (v := (1 : Int32)) hx hb dL_law_656 (by decide) ?_
  refine lv_iadd hx hb dL_law_657 ?_
  refine va_sld hx hb hX hbl hbA hS i1 dL_law_658 ?_
  refine lv_aload_n hx hb dL_law_659 rfl (lv_at hl 0 rfl) ?_
  refine lv_iload_n hx hb dL_law_660 rfl (lv_at hl 3 rfl) ?_
  refine lv_iconst (v := (2 : Int32)) hx hb dL_law_661 (by decide) ?_
  refine lv_iadd hx hb dL_law_662 ?_
  refine va_sld hx hb hX hbl hbA hS i2 dL_law_663 ?_
  refine l_V (As := [.int ((xs (nI j + (1 : Int32)).toNatClampNeg)), .int ((xs (nI j + (2 : Int32)).toNatClampNeg))]) (rest := [.int r1]) (f := 21) (k := 0) (L2 := LX) S hK hN hP2 hP1 (LX_ap s.heap.size) hS (fun q z => Nat.le_trans (Nat.le_add_right _ _) z.1) (qX9_sheetsTo l D E (adL s.heap.size) LM (A2 s.heap.size) (LM_F E s.heap.size) LM_gLm M2 ((xs (nI j + (1 : Int32)).toNatClampNeg)) ((xs (nI j + (2 : Int32)).toNatClampNeg)) _ hw2) (cwV 2 hts gL_law_X9_sheetsTo rfl rfl rfl eX9_sheetsTo ⟨(Nat.le_of_ble_eq_true rfl), (Nat.le_of_ble_eq_true rfl)⟩) (LM_gLm.h (f := 21) (by decide)) (gC21 _ _ _ _) gcl9 rfl rfl rfl hl.1 (Nat.le_of_ble_eq_true rfl) ⟨Nat.le_refl _, Nat.le_refl _⟩ dL_law_664 (fun r2 M2 H locs hr2 hP2 hP1 hS => ?_)
  exact lv_icmp_eq (tgt := 695) hx hb dL_law_667 (by decide) (fun _ => hback M1 M2 H locs ls ⟨S1, sn1, Sn1, h1, Hs1, t1, n1, hO1, hr1.2, hr2.2⟩ hP1 hP2 hS hl) (fun z => absurd (hr1.1.trans hr2.1.symm) z)
set_option maxHeartbeats 4000000 in
set_option maxRecDepth 100000 in
theorem lc_count {p : Program} {e : Env} {s : State} {m : MethodId} {below : List Frame} {meth : Method} {c : Code} {b L : Nat} {xs : Nat → Int32} {D : va_G} {E : Nat → ClassId} (l : Launch) (hx : p.tables.exec = Jvm.exec) (hb : c.code = cL_law) (hml : c.maxLocals = 4) (hown : s.vm.findClass RL = some m.cls) (hts : ∀ w ∈ wsL_law, w.before #[Value.ref b] s = true) (hX : va_X b L xs s s.heap) (hbl : b < s.heap.size) (hK : va_K D vwCl (gT E) s) (hN : gNw s) {Q : State → Prop} {j : Nat} (hj : j + 4 ≤ L) (hL : L ≤ 2048) (hback : ∀ (M1 M2 : gW) (H : Heap) (locs : List Loc) (ls : Array Slot), INV M1 M2 → va_P D vwCl (gL E (adL s.heap.size) LX M1) H → va_P D vwCl (gL E (adL s.heap.size) LM M2) H → va_S (fun q => s.heap.size ≤ q) s.heap H locs → lv_has ls 4 [(0, .ref b), (1, .ref (adL s.heap.size 0 0)), (2, .ref (adL s.heap.size 21 0)), (3, .int (nI j))] → W p l e room_1 s m #[Value.ref b] below meth c H locs 600000 7302250 Q (F0 m 695 ls [])) {M1 M2 : gW} {H : Heap} {locs : List Loc} {ls : Array Slot} (hI : INV M1 M2) (hP1 : va_P D vwCl (gL E (adL s.heap.size) LX M1) H) (hP2 : va_P D vwCl (gL E (adL s.heap.size) LM M2) H) (hS : va_S (fun q => s.heap.size ≤ q) s.heap H locs) (hl : lv_has ls 4 [(0, .ref b), (1, .ref (adL s.heap.size 0 0)), (2, .ref (adL s.heap.size 21 0)), (3, .int (nI j))]) : W p l e room_1 s m #[Value.ref b] below meth c H locs 600000 7302250 Q (F0 m 672 ls []) := by
  have S : CallFix p m c cL_law 4 s #[Value.ref b] wsL_law RL := ⟨hx, hb, hml, hown, hts⟩
  have hbA : ¬ s.heap.size ≤ b := Nat.not_le.mpr hbl
  have i1 : vp_in (nI j + 1) L := by rw [nI_add1]; exact pk_in (j + 1) L (by omega)
  have i2 : vp_in (nI j + 2) L := by rw [show nI j + (2 : Int32) = nI (j + 2) from nI_add j 2]; exact pk_in (j + 2) L (by omega)
  have i3 : vp_in (nI j + 3) L := by rw [show nI j + (3 : Int32) = nI (j + 3) from nI_add j 3]; exact pk_in (j + 3) L (by omega)
  obtain ⟨r, S1, sn1, Sn1, h1, Hs1, t1, n1, hO1, hw1, hw2⟩ := j_count hI ((xs (nI j + (1 : Int32)).toNatClampNeg))
  refine lv_aload_n hx hb dL_law_672 rfl (lv_at hl 1 rfl) ?_
  refine lv_aload_n hx hb dL_law_673 rfl (lv_at hl 0 rfl) ?_
  refine lv_iload_n hx hb dL_law_674 rfl (lv_at hl 3 rfl) ?_
  refine lv_iconst (v := (1 : Int32)) hx hb dL_law_675 (by decide) ?_
  refine lv_iadd hx hb dL_law_676 ?_
  refine va_sld hx hb hX hbl hbA hS i1 dL_law_677 ?_
  refine l_V (As := [.int ((xs (nI j + (1 : Int32)).toNatClampNeg))]) (rest := []) (f := 0) (k := 0) (L2 := LM) S hK hN hP1 hP2 (LM_ap s.heap.size) hS (fun q z => z.1) (qX8_count l D E (adL s.heap.size) LX (A1 s.heap.size) (LX_F E s.heap.size) LX_gLx M1 ((xs (nI j + (1 : Int32)).toNatClampNeg)) _ hw1) (cwV 1 hts gL_law_X8_count rfl rfl rfl eX8_count ⟨(Nat.le_of_ble_eq_true rfl), (Nat.le_of_ble_eq_true rfl)⟩) (LX_gLx.h (f := 0) (by decide)) (gC0 _ _ _ _) gcl8 rfl rfl rfl hl.1 (Nat.le_of_ble_eq_true rfl) ⟨Nat.le_refl _, Nat.le_refl _⟩ dL_law_678 (fun r1 M1 H locs hr1 hP1 hP2 hS => ?_)
  refine lv_aload_n hx hb dL_law_681 rfl (lv_at hl 2 rfl) ?_
  refine lv_aload_n hx hb dL_law_682 rfl (lv_at hl 0 rfl) ?_
  refine lv_iload_n hx hb dL_law_683 rfl (lv_at hl 3 rfl) ?_
  refine lv_iconst (v := (1 : Int32)) hx hb dL_law_684 (by decide) ?_
  refine lv_iadd hx hb dL_law_685 ?_
  refine va_sld hx hb hX hbl hbA hS i1 dL_law_686 ?_
  refine l_V (As := [.int ((xs (nI j + (1 : Int32)).toNatClampNeg))]) (rest := [.int r1]) (f := 21) (k := 0) (L2 := LX) S hK hN hP2 hP1 (LX_ap s.heap.size) hS (fun q z => Nat.le_trans (Nat.le_add_right _ _) z.1) (qX9_count l D E (adL s.heap.size) LM (A2 s.heap.size) (LM_F E s.heap.size) LM_gLm M2 ((xs (nI j + (1 : Int32)).toNatClampNeg)) _ hw2) (cwV 1 hts gL_law_X9_count rfl rfl rfl eX9_count ⟨(Nat.le_of_ble_eq_true rfl), (Nat.le_of_ble_eq_true rfl)⟩) (LM_gLm.h (f := 21) (by decide)) (gC21 _ _ _ _) gcl9 rfl rfl rfl hl.1 (Nat.le_of_ble_eq_true rfl) ⟨Nat.le_refl _, Nat.le_refl _⟩ dL_law_687 (fun r2 M2 H locs hr2 hP2 hP1 hS => ?_)
  exact lv_icmp_eq (tgt := 695) hx hb dL_law_690 (by decide) (fun _ => hback M1 M2 H locs ls ⟨S1, sn1, Sn1, h1, Hs1, t1, n1, hO1, hr1.2, hr2.2⟩ hP1 hP2 hS hl) (fun z => absurd (hr1.1.trans hr2.1.symm) z)
