/-! ===== LAYER 3: cells that are made: where each lies is known ===== -/
/-- the cell a holds e -/
def HC (D : va_G) (H : Heap) (a : Nat) (e : va_E) : Prop := va_at D vwCl (a, e) H
theorem HC.kept {D : va_G} {H H1 : Heap} {a : Nat} {e : va_E} (h : HC D H a e) (hq : H1[a]? = H[a]?) : HC D H1 a e := va_at.kept (q := (a, e)) h hq
theorem HC.lt {D : va_G} {H : Heap} {a : Nat} {e : va_E} (h : HC D H a e) : a < H.size := va_at.lt (q := (a, e)) h
theorem HC.one {D : va_G} {H : Heap} {a : Nat} {e : va_E} (h : HC D H a e) : va_P D vwCl [(a, e)] H := fun k q hk => by
  have h1 := (List.getElem?_eq_some_iff.mp hk).1
  have h2 : k = 0 := by simp at h1; exact h1
  subst h2
  cases hk; exact h
theorem kS_new {A : Nat → Prop} {H0 H H1 : Heap} {locs : List Loc} {h : Nat} (hS : va_S A H0 H locs) (hh : H.size = h) (z : H1.size = h + 1) (o : ∀ q, q < h → H1[q]? = H[q]?) : va_S A H0 H1 locs :=
  ⟨by have := hS.1; omega, fun q h1 h2 => (o q (by have := hS.1; omega)).trans (hS.2.1 q h1 h2), hS.2.2⟩
theorem arrV_cg {cA : ClassId} {n : Nat} {f g : Nat → Value} (h : ∀ j, j < n → f j = g j) : arrV cA n f = arrV cA n g := by
  unfold arrV
  congr 1
  apply congrArg
  funext j
  exact h j.val j.isLt
theorem HC.refs {D : va_G} {H : Heap} {a : Nat} {cA : ClassId} {n : Nat} {f g : Nat → Option Nat} (h : HC D H a (.inl (cA, n, .inr (.inr (.inr (.inr f)))))) (e : ∀ j, j < n → f j = g j) : HC D H a (.inl (cA, n, .inr (.inr (.inr (.inr g))))) := by
  have h' : H[a]? = some (arrV cA n (fun j => va_rf (f j))) := h
  show H[a]? = some (arrV cA n (fun j => va_rf (g j)))
  rw [h', arrV_cg (fun j hj => by rw [e j hj])]
section KR
variable {p : Program} {l : Launch} {e : Env} {R : Room} {s : State} {m : MethodId} {args : Array Value} {below : List Frame} {meth : Method} {c : Code} {H : Heap} {locs : List Loc} {cells slots : Nat} {Q : State → Prop}
variable {cc : ByteArray} {pc : Nat} {ls : Array Slot} {rest : List Value} {D : va_G} {A : Nat → Prop} {E : Nat → ClassId} {H0 : Heap}
theorem k_new (hx : p.tables.exec = Jvm.exec) (hb : c.code = cc) {own C : String} {T : u_T} {N ci index : Nat} {Ts : List Cond} (hts : ∀ w ∈ Ts, w.before args s = true) (hin : ∀ w ∈ u_ws C T N, w ∈ Ts) (ty : Nat → FieldType) (hty : ∀ k, k < N → parseFieldDescriptor (T k).2.2.1 = some (ty k)) (hown : s.vm.findClass own = some m.cls) (hcl : Cond.classLink own index C ∈ Ts) (hinst : Cond.instantiable C N ∈ Ts) (hini : Cond.initialized C ∈ Ts) (hK : va_K D vwCl (gT E) s) (hc : vwCl[ci]? = some (C, T, N)) {fs : List Value} (hfs : ∀ j, j < N → defaultValue (ty j) = vp_V fs j) (hcells : cells + 1 ≤ R.cells) (hslots : slots + N ≤ R.slots) {h : Nat} (hh : H.size = h) (hdg : decode cc pc = .ok (.new index, 3))
    (kk : ∀ H1 : Heap, HC D H1 h (.inr (ci, fs)) → H1.size = h + 1 → (∀ q, q < h → H1[q]? = H[q]?) → W p l e R s m args below meth c H1 locs (cells + 1) (slots + N) Q (F0 m (pc + 3) ls (.ref h :: rest))) : W p l e R s m args below meth c H locs cells slots Q (F0 m pc ls rest) := by
  have hKn := hK.1 ci _ hc
  refine W.newcK hx hb hown (hts _ hcl) (hts _ hinst) (hts _ hini) rfl hdg hcells hslots hKn.2.1 hh fun H1 kC hkC e1 z1 o1 => ?_
  exact kk H1 ⟨_, hc, (u_born ty hts hin hKn hkC e1 hty).to hfs⟩ z1 o1
/-- an array of ints, booleans or chars -/
theorem k_newa (hx : p.tables.exec = Jvm.exec) (hb : c.code = cc) {atype : ArrayType} {ty : FieldType} {Ts : List Cond} (hts : ∀ w ∈ Ts, w.before args s = true) (harr : Cond.arrayClass (newarray.typeOf atype) ∈ Ts) (hty : newarray.typeOf atype = ty) (hd : defaultValue ty = .int 0) (hK : va_K D vwCl (gT E) s) (t0 : Nat) {cE : ClassId} (ht : (gT E)[t0]? = some (cE, ty)) (hra : va_RA s cE ty → s.vm.findClass ("[" ++ ty.toString) = some cE) {n : Int32} (N : Nat) (hn : ¬ n < 0) (hN : n.toNatClampNeg = N) (hbytes : N * componentBytes ty ≤ 536870912) (hcells : cells + 1 ≤ R.cells) (hslots : slots + N ≤ R.slots) {h : Nat} (hh : H.size = h) (hdg : decode cc pc = .ok (.newarray atype, 2))
    (kk : ∀ H1 : Heap, HC D H1 h (.inl (cE, N, .inl (fun _ => 0))) → H1.size = h + 1 → (∀ q, q < h → H1[q]? = H[q]?) → W p l e R s m args below meth c H1 locs (cells + 1) (slots + N) Q (F0 m (pc + 2) ls (.ref h :: rest))) : W p l e R s m args below meth c H locs cells slots Q (F0 m pc ls (.int n :: rest)) := by
  subst hty
  refine va_newaK hx hb (hts _ harr) rfl hdg rfl hn hN hbytes hcells hslots hh fun H1 cA e1 z1 o1 hAr hNm => kk H1 ?_ z1 o1
  have h1 := hra (hK.2 t0 _ ht).2
  have hcc : cA = cE := Option.some.inj (hNm.symm.trans h1)
  show H1[h]? = some (arrV cE N (fun _ => .int 0))
  rw [e1, hd, hcc]
/-- an array of references -/
theorem k_newq (hx : p.tables.exec = Jvm.exec) (hb : c.code = cc) {own C : String} {index : Nat} {Ts : List Cond} (hts : ∀ w ∈ Ts, w.before args s = true) (hown : s.vm.findClass own = some m.cls) (hcl : Cond.classLink own index C ∈ Ts) (hover : va_AO C s) (hK : va_K D vwCl (gT E) s) (t0 : Nat) {cE : ClassId} (ht : (gT E)[t0]? = some (cE, .object C)) {n : Int32} (N : Nat) (hn : ¬ n < 0) (hN : n.toNatClampNeg = N) (hbytes : N * 4 ≤ 536870912) (hcells : cells + 1 ≤ R.cells) (hslots : slots + N ≤ R.slots) {h : Nat} (hh : H.size = h) (hdg : decode cc pc = .ok (.anewarray index, 3))
    (kk : ∀ H1 : Heap, HC D H1 h (.inl (cE, N, .inr (.inr (.inr (.inr (fun _ => none)))))) → H1.size = h + 1 → (∀ q, q < h → H1[q]? = H[q]?) → W p l e R s m args below meth c H1 locs (cells + 1) (slots + N) Q (F0 m (pc + 3) ls (.ref h :: rest))) : W p l e R s m args below meth c H locs cells slots Q (F0 m pc ls (.int n :: rest)) := by
  subst hN
  subst hh
  refine W.anew hx hb hown (hts _ hcl) (va_AO.use hover) rfl hdg rfl hn hbytes hcells hslots fun cA kA comp f1 _ _ _ => kk _ ?_ ?_ ?_
  · obtain ⟨kA', comp', -, -, -, k4⟩ := (hK.2 t0 _ ht).2
    have hcc : cA = cE := Option.some.inj (f1.symm.trans k4)
    show (H.push _)[H.size]? = some (arrV cE n.toNatClampNeg (fun _ => .null))
    rw [Array.getElem?_push_size, ← arrV_new, hcc]
  · rw [Array.size_push]
  · intro q hq
    rw [Array.getElem?_push, if_neg (Nat.ne_of_lt hq)]
theorem k_get (hx : p.tables.exec = Jvm.exec) (hb : c.code = cc) {own ref C : String} {T : u_T} {N ci index : Nat} {Ts : List Cond} (hts : ∀ w ∈ Ts, w.before args s = true) (hin : ∀ w ∈ u_ws C T N, w ∈ Ts) (hown : s.vm.findClass own = some m.cls) (hK : va_K D vwCl (gT E) s) {a : Nat} {fs : List Value} (hH : HC D H a (.inr (ci, fs))) (hc : vwCl[ci]? = some (C, T, N)) (j : Nat) (hj : j < N) (hlink : Cond.fieldLink own index ref (T j).2.1 (T j).2.2.1 ∈ Ts) (hsame : (T j).1 = ref) {v : Value} (hv : fs[j]? = some v) (hdg : decode cc pc = .ok (.getfield index, 3))
    (kk : W p l e R s m args below meth c H locs cells slots Q (F0 m (pc + 3) ls (v :: rest))) : W p l e R s m args below meth c H locs cells slots Q (F0 m pc ls (.ref a :: rest)) :=
  va_get hx hb hts hin hown hK hH.one 0 rfl hc j hj (hts _ hlink) (fun _ h => by rw [hsame] at h; exact h) hv hdg kk
/-- an int into a field -/
theorem k_put (hx : p.tables.exec = Jvm.exec) (hb : c.code = cc) {own ref C : String} {T : u_T} {N ci index : Nat} {Ts : List Cond} (hts : ∀ w ∈ Ts, w.before args s = true) (hin : ∀ w ∈ u_ws C T N, w ∈ Ts) (ty0 : Nat → FieldType) (hty : ∀ k, k < N → parseFieldDescriptor (T k).2.2.1 = some (ty0 k)) (hnm : ∀ a, a < N → ∀ b, b < N → a ≠ b → (T a).2.1 ≠ (T b).2.1) (hown : s.vm.findClass own = some m.cls) (hK : va_K D vwCl (gT E) s) (hS : va_S A H0 H locs) {a : Nat} (hA : A a) {fs : List Value} (hH : HC D H a (.inr (ci, fs))) (hc : vwCl[ci]? = some (C, T, N)) (j : Nat) (hj : j < N) (hlink : Cond.fieldLink own index ref (T j).2.1 (T j).2.2.1 ∈ Ts) (hsame : (T j).1 = ref) (hfin : (T j).2.2.2 = false) {x : Int32} (hn : narrow (ty0 j) (.int x) = .int x) (hfit : fits (ty0 j) (.int x) = true) (hl : j < fs.length) (hdg : decode cc pc = .ok (.putfield index, 3))
    (kk : ∀ (H1 : Heap) (locs1 : List Loc), HC D H1 a (.inr (ci, fs.set j (.int x))) → H1.size = H.size → (∀ q, q ≠ a → H1[q]? = H[q]?) → va_S A H0 H1 locs1 → W p l e R s m args below meth c H1 locs1 cells slots Q (F0 m (pc + 3) ls rest)) : W p l e R s m args below meth c H locs cells slots Q (F0 m pc ls (.int x :: .ref a :: rest)) := by
  obtain ⟨r, h1, cell, q1, q2, q3, q4⟩ := hH
  obtain rfl : r = (C, T, N) := Option.some.inj (h1.symm.trans hc)
  have hKc := hK.1 ci _ hc
  obtain ⟨cf, kf, fi, f, hi, hsl⟩ := hKc.1 j hj
  obtain ⟨kC, hkC, hkind⟩ := hKc.2.2
  have hlay : (Cond.lays C (T j).1 (T j).2.1 (T j).2.2.1).before args s = true := by
    have h := hts _ (hin _ (u_in_lay hj))
    unfold u_lay at h
    rwa [if_neg (by rw [hfin]; decide)] at h
  have h6 := u_store hKc.2.1 hkC hkind hlay hi (hty j hj) hn hfit
  refine W.putK hx hb (f := f) ⟨hown, hts _ hlink, ⟨_, _, _, by rw [← hsame]; exact hi⟩, (u_facts hKc.2.1 hkC (u_lays hts hin hj) hi).1⟩ (by rw [q2]; exact h6) q1 q3 (by rw [hsl]; exact k2_hasslot (q4 j hj)) rfl rfl hdg fun H1 e1 e2 e3 => ?_
  rw [hsl] at e1 ⊢
  exact kk H1 _ ⟨_, hc, t_OB.to (V := updV (vp_V fs) j (.int x)) ⟨_, e1, q2, q3, t_set q4 (va_apart (own := own) hts hin ty0 hty hnm hK hc) hj _⟩ (fun i _ => vp_updV_set hl _ i)⟩ e2 e3 (hS.put e2 e3 hA)
/-- a reference into a final field of the object that is made -/
theorem k_putF (hx : p.tables.exec = Jvm.exec) (hb : c.code = cc) {own ref C : String} {T : u_T} {N ci index : Nat} {Ts : List Cond} (hts : ∀ w ∈ Ts, w.before args s = true) (hin : ∀ w ∈ u_ws C T N, w ∈ Ts) (ty0 : Nat → FieldType) (hty : ∀ k, k < N → parseFieldDescriptor (T k).2.2.1 = some (ty0 k)) (hnm : ∀ a, a < N → ∀ b, b < N → a ≠ b → (T a).2.1 ≠ (T b).2.1) (hown : s.vm.findClass own = some m.cls) (hK : va_K D vwCl (gT E) s) (hS : va_S A H0 H locs) {a : Nat} (hA : A a) {fs : List Value} (hH : HC D H a (.inr (ci, fs))) (hc : vwCl[ci]? = some (C, T, N)) (j : Nat) (hj : j < N) (hlink : Cond.fieldLink own index ref (T j).2.1 (T j).2.2.1 ∈ Ts) (hsame : (T j).1 = ref) (hfin : (T j).2.2.2 = true) (hin2 : meth.name = "<init>") (hdecl : (T j).1 = own) {v : Nat} (hn : narrow (ty0 j) (.ref v) = .ref v) (hfit : fits (ty0 j) (.ref v) = true) (hl : j < fs.length) (hdg : decode cc pc = .ok (.putfield index, 3))
    (kk : ∀ (H1 : Heap) (locs1 : List Loc), HC D H1 a (.inr (ci, fs.set j (.ref v))) → H1.size = H.size → (∀ q, q ≠ a → H1[q]? = H[q]?) → va_S A H0 H1 locs1 → W p l e R s m args below meth c H1 locs1 cells slots Q (F0 m (pc + 3) ls rest)) : W p l e R s m args below meth c H locs cells slots Q (F0 m pc ls (.ref v :: .ref a :: rest)) := by
  obtain ⟨r, h1, cell, q1, q2, q3, q4⟩ := hH
  obtain rfl : r = (C, T, N) := Option.some.inj (h1.symm.trans hc)
  have hKc := hK.1 ci _ hc
  obtain ⟨cf, kf, fi, f, hi, hsl⟩ := hKc.1 j hj
  obtain ⟨kC, hkC, hkind⟩ := hKc.2.2
  have hlay : (Cond.laysFinal C (T j).1 (T j).2.1 (T j).2.2.1).before args s = true := by
    have h := hts _ (hin _ (u_in_lay hj))
    unfold u_lay at h
    rwa [if_pos hfin] at h
  have hcf : m.cls = cf := by
    obtain ⟨_, _, c', _, _, _, -, -, hf', -, -, -, hown2, -⟩ := Cond.laysFinal_spec hlay
    have e1 := hi.symm.trans hf'
    simp only [Option.some.injEq, Prod.mk.injEq] at e1
    rw [hdecl] at hown2
    rw [e1.1]; exact Option.some.inj (hown.symm.trans hown2)
  have h6 := u_fits hKc.2.1 hkC hkind (Or.inr hlay) hi (hty j hj) hn hfit
  refine W.putFinK hx hb hown (hts _ hlink) (by rw [← hsame]; exact hi) (u_facts hKc.2.1 hkC (u_lays hts hin hj) hi).1 hcf hin2 (by rw [q2]; exact h6) q1 q3 (by rw [hsl]; exact k2_hasslot (q4 j hj)) rfl rfl hdg fun H1 e1 e2 e3 => ?_
  rw [hsl] at e1 ⊢
  exact kk H1 _ ⟨_, hc, t_OB.to (V := updV (vp_V fs) j (.ref v)) ⟨_, e1, q2, q3, t_set q4 (va_apart (own := own) hts hin ty0 hty hnm hK hc) hj _⟩ (fun i _ => vp_updV_set hl _ i)⟩ e2 e3 (hS.put e2 e3 hA)
/-- an object into an array -/
theorem k_astq (hx : p.tables.exec = Jvm.exec) (hb : c.code = cc) (hK : va_K D vwCl (gT E) s) (hS : va_S A H0 H locs) {a v t0 ci n : Nat} (hA : A a) {cE : ClassId} {r : vw_C} {vs : List Value} {f : Nat → Option Nat} (hH : HC D H a (.inl (cE, n, .inr (.inr (.inr (.inr f)))))) (ht : (gT E)[t0]? = some (cE, .object r.1)) (hV : HC D H v (.inr (ci, vs))) (hc : vwCl[ci]? = some r) {i : Nat} (hi : i < n) (hn : n < 2 ^ 31) (hdg : decode cc pc = .ok (.aastore, 1))
    (kk : ∀ (H1 : Heap) (locs1 : List Loc), HC D H1 a (.inl (cE, n, .inr (.inr (.inr (.inr (fun j => if j = i then some v else f j)))))) → H1.size = H.size → (∀ q, q ≠ a → H1[q]? = H[q]?) → va_S A H0 H1 locs1 → W p l e R s m args below meth c H1 locs1 cells slots Q (F0 m (pc + 1) ls rest)) : W p l e R s m args below meth c H locs cells slots Q (F0 m pc ls (.ref v :: .int (nI i) :: .ref a :: rest)) := by
  obtain ⟨r', hr', cellV, g1, g2, g3, -⟩ := hV
  have hcls := (hK.1 ci r hc).2
  obtain ⟨kA, comp, k1, k2, k3, -⟩ := (hK.2 t0 _ ht).2
  obtain rfl : comp = D.1 ci := Option.some.inj (k3.symm.trans hcls.1)
  obtain ⟨kC, hkC, -⟩ := hcls.2
  have hcl : (nI i).toNatClampNeg = i := nI_clamp (by omega)
  have hH' : H[a]? = some (arrV cE n (fun j => va_rf (f j))) := hH
  refine W.aast hx hb hH' (fun q h => by cases h) (fun h => by cases h) k1 k2 rfl hkC ⟨nI_pos (by omega), by rw [arrV_size, hcl]; exact hi⟩ g1 (fun q h => by rw [g3] at h; cases h) (by rw [g2]; exact hkC) (by rw [g2]; exact va_assign hcls) rfl rfl hdg fun H1 e1 z oq => ?_
  refine kk H1 _ ?_ z oq (hS.put z oq hA)
  show H1[a]? = some (arrV cE n (fun j => va_rf (if j = i then some v else f j)))
  rw [e1, hcl, arrV_store]
  congr 1
  apply arrV_cg
  intro j _
  unfold updV
  by_cases hj : j = i
  · rw [if_pos hj, if_pos hj]; rfl
  · rw [if_neg hj, if_neg hj]
/-- an int into an array -/
theorem k_iast (hx : p.tables.exec = Jvm.exec) (hb : c.code = cc) (hK : va_K D vwCl (gT E) s) (hS : va_S A H0 H locs) {a n : Nat} (hA : A a) {f : Nat → Int32} (hH : HC D H a (.inl (E 0, n, .inl f))) {i : Nat} {x : Int32} (hi : i < n) (hn : n < 2 ^ 31) (hdg : decode cc pc = .ok (.iastore, 1))
    (kk : ∀ (H1 : Heap) (locs1 : List Loc), HC D H1 a (.inl (E 0, n, .inl (upd f i x))) → H1.size = H.size → (∀ q, q ≠ a → H1[q]? = H[q]?) → va_S A H0 H1 locs1 → W p l e R s m args below meth c H1 locs1 cells slots Q (F0 m (pc + 1) ls rest)) : W p l e R s m args below meth c H locs cells slots Q (F0 m pc ls (.int x :: .int (nI i) :: .ref a :: rest)) := by
  have hcl : (nI i).toNatClampNeg = i := nI_clamp (by omega)
  have hH' : H[a]? = some (arrV (E 0) n (fun j => .int (f j))) := hH
  refine W.iast hx hb hH' ((hK.2 0 (E 0, .int) rfl).1 n (fun j => .int (f j))) (fun q => by cases q) (by rw [arrV_size, hcl]; exact fun z => z.elim (nI_pos (by omega)) (fun z => absurd hi (by omega))) rfl rfl hdg fun H1 e1 z oq => ?_
  refine kk H1 _ ?_ z oq (hS.put z oq hA)
  show H1[a]? = some (arrV (E 0) n (fun j => .int (upd f i x j)))
  rw [e1, hcl, arrV_store]
  congr 1
  apply arrV_cg
  intro j _
  unfold updV
  rw [upd_at]
  by_cases hj : j = i
  · rw [if_pos hj, if_pos hj]
  · rw [if_neg hj, if_neg hj]
end KR
/-- the start of a constructor, of an object that was just made at a -/
def iPre (D : va_G) (E : Nat → ClassId) (a : Nat) (e : va_E) : State → Prop := fun U => U.heap.size = a + 1 ∧ HC D U.heap a e ∧ va_K D vwCl (gT E) U ∧ va_AO RX4 U ∧ va_AO RX6 U
/-- its end -/
abbrev iQ (a n : Nat) (P : Heap → Prop) := va_Qv (fun _ : Unit => True) (fun _ t => t.heap.size = a + n ∧ P t.heap) (fun q => a ≤ q)
theorem iPre.blind {D : va_G} {E : Nat → ClassId} {a : Nat} {e : va_E} (av : List Value) : FrameBlind (va_Pc av (iPre D E a e)) := fun _ U g mk q => ⟨q.1, q.2.1, q.2.2.1, va_K.moved (u := U) (Vm.Alike.refl U.vm) q.2.2.2.1, va_AO.moved (u := U) (Vm.Alike.refl U.vm) q.2.2.2.2.1, va_AO.moved (u := U) (Vm.Alike.refl U.vm) q.2.2.2.2.2⟩
theorem iPre.at {D : va_G} {E : Nat → ClassId} {a : Nat} {e : va_E} {s : State} {H : Heap} (hK : va_K D vwCl (gT E) s) (h4 : va_AO RX4 s) (h6 : va_AO RX6 s) (hz : H.size = a + 1) (hH : HC D H a e) (av : List Value) (U : State) (hU : U.heap = H) (hW : s.WarmedH U.vm) : va_Pc av (iPre D E a e) av.toArray U := ⟨rfl, by rw [hU]; exact hz, by rw [hU]; exact hH, va_K.moved hW.alike hK, va_AO.moved hW.alike h4, va_AO.moved hW.alike h6⟩
