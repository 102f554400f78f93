/-! ===== THE WORLD: one function M : family → index → slot → int tells what every cell holds; references are fixed by the layout ===== -/
abbrev gW : Type := Nat → Nat → Nat → Int32
/-- one cell's row changed -/
def gU (M : gW) (f k : Nat) (r : Nat → Int32) : gW := fun f' k' => if f' = f ∧ k' = k then r else M f' k'
theorem gU_same (M : gW) (f k : Nat) (r : Nat → Int32) : gU M f k r f k = r := by unfold gU; rw [if_pos ⟨rfl, rfl⟩]
theorem gU_ne {M : gW} {f k f' k' : Nat} {r : Nat → Int32} (h : ¬ (f' = f ∧ k' = k)) : gU M f k r f' k' = M f' k' := by unfold gU; rw [if_neg h]
/-- how long the reference's arrays are -/
def gRl (k : Nat) : Nat := match k with
  | 0 => 1730 | 1 => 1730 | 2 => 1730 | 3 => 6920 | 4 => 1730 | 5 => 29 | 6 => 10 | 7 => 10 | 8 => 702 | 9 => 60 | 10 => 15 | 11 => 15 | _ => 15
/-- what the cell of family f, index k holds, its ints being r -/
def gC (E : Nat → ClassId) (ad : Nat → Nat → Nat) (f k : Nat) (r : Nat → Int32) : va_E := match f with
  | 0 => .inr (8, [.ref (ad 1 0), .ref (ad 1 1), .ref (ad 1 2), .ref (ad 10 0), .ref (ad 12 0), .ref (ad 14 0), .ref (ad 19 0), .int (r 7)])
  | 1 => .inr (4, [.ref (ad 2 k), .ref (ad 5 k), .int (r 2), .int (r 3), .int (r 4), .int (r 5), .int (r 6)])
  | 2 => .inr (1, [.ref (ad 3 k), .ref (ad 4 k)])
  | 3 => .inl (E 0, 702, .inl r)
  | 4 => .inl (E 0, 702, .inl r)
  | 5 => .inr (7, [.ref (ad 6 k), .int (r 1)])
  | 6 => .inl (E 4, 20, .inr (.inr (.inr (.inr (fun i => some (ad 7 (20 * k + i)))))))
  | 7 => .inr (6, [.ref (ad 8 k), .ref (ad 9 k), .int (r 2), .int (r 3)])
  | 8 => .inl (E 0, 15, .inl r)
  | 9 => .inl (E 0, 29, .inl r)
  | 10 => .inr (0, [.ref (ad 11 0), .int (r 1)])
  | 11 => .inl (E 3, 4, .inr (.inr (.inr (.inr (fun i => some (ad 1 (r i).toNatClampNeg))))))
  | 12 => .inr (5, [.ref (ad 13 0), .ref (ad 7 140), .int (r 2)])
  | 13 => .inl (E 2, 60, .inl r)
  | 14 => .inr (3, [.ref (ad 15 0), .ref (ad 16 0), .ref (ad 17 0), .ref (ad 18 0), .int (r 4)])
  | 15 => .inl (E 0, 10, .inl r)
  | 16 => .inl (E 0, 10, .inl r)
  | 17 => .inl (E 1, 702, .inl r)
  | 18 => .inl (E 1, 20, .inl r)
  | 19 => .inr (2, [.ref (ad 20 0)])
  | 20 => .inl (E 0, 100, .inl r)
  | 21 => .inr (9, [.ref (ad 22 0), .ref (ad 22 1), .ref (ad 22 2), .ref (ad 22 3), .int (r 4), .ref (ad 22 4), .int (r 6), .ref (ad 22 5), .int (r 8), .ref (ad 22 6), .ref (ad 22 7), .int (r 11), .ref (ad 22 8), .ref (ad 22 9), .int (r 14), .ref (ad 22 10), .ref (ad 22 11), .ref (ad 22 12), .int (r 18)])
  | _ => .inl (E 0, gRl k, .inl r)
section GC
variable (E : Nat → ClassId) (ad : Nat → Nat → Nat) (k : Nat) (r : Nat → Int32)
theorem gC0 : gC E ad 0 k r = .inr (8, [.ref (ad 1 0), .ref (ad 1 1), .ref (ad 1 2), .ref (ad 10 0), .ref (ad 12 0), .ref (ad 14 0), .ref (ad 19 0), .int (r 7)]) := rfl
theorem gC1 : gC E ad 1 k r = .inr (4, [.ref (ad 2 k), .ref (ad 5 k), .int (r 2), .int (r 3), .int (r 4), .int (r 5), .int (r 6)]) := rfl
theorem gC2 : gC E ad 2 k r = .inr (1, [.ref (ad 3 k), .ref (ad 4 k)]) := rfl
theorem gC3 : gC E ad 3 k r = .inl (E 0, 702, .inl r) := rfl
theorem gC4 : gC E ad 4 k r = .inl (E 0, 702, .inl r) := rfl
theorem gC5 : gC E ad 5 k r = .inr (7, [.ref (ad 6 k), .int (r 1)]) := rfl
theorem gC6 : gC E ad 6 k r = .inl (E 4, 20, .inr (.inr (.inr (.inr (fun i => some (ad 7 (20 * k + i))))))) := rfl
theorem gC7 : gC E ad 7 k r = .inr (6, [.ref (ad 8 k), .ref (ad 9 k), .int (r 2), .int (r 3)]) := rfl
theorem gC8 : gC E ad 8 k r = .inl (E 0, 15, .inl r) := rfl
theorem gC9 : gC E ad 9 k r = .inl (E 0, 29, .inl r) := rfl
theorem gC10 : gC E ad 10 k r = .inr (0, [.ref (ad 11 0), .int (r 1)]) := rfl
theorem gC11 : gC E ad 11 k r = .inl (E 3, 4, .inr (.inr (.inr (.inr (fun i => some (ad 1 (r i).toNatClampNeg)))))) := rfl
theorem gC12 : gC E ad 12 k r = .inr (5, [.ref (ad 13 0), .ref (ad 7 140), .int (r 2)]) := rfl
theorem gC13 : gC E ad 13 k r = .inl (E 2, 60, .inl r) := rfl
theorem gC14 : gC E ad 14 k r = .inr (3, [.ref (ad 15 0), .ref (ad 16 0), .ref (ad 17 0), .ref (ad 18 0), .int (r 4)]) := rfl
theorem gC15 : gC E ad 15 k r = .inl (E 0, 10, .inl r) := rfl
theorem gC16 : gC E ad 16 k r = .inl (E 0, 10, .inl r) := rfl
theorem gC17 : gC E ad 17 k r = .inl (E 1, 702, .inl r) := rfl
theorem gC18 : gC E ad 18 k r = .inl (E 1, 20, .inl r) := rfl
theorem gC19 : gC E ad 19 k r = .inr (2, [.ref (ad 20 0)]) := rfl
theorem gC20 : gC E ad 20 k r = .inl (E 0, 100, .inl r) := rfl
theorem gC21 : gC E ad 21 k r = .inr (9, [.ref (ad 22 0), .ref (ad 22 1), .ref (ad 22 2), .ref (ad 22 3), .int (r 4), .ref (ad 22 4), .int (r 6), .ref (ad 22 5), .int (r 8), .ref (ad 22 6), .ref (ad 22 7), .int (r 11), .ref (ad 22 8), .ref (ad 22 9), .int (r 14), .ref (ad 22 10), .ref (ad 22 11), .ref (ad 22 12), .int (r 18)]) := rfl
theorem gC22 : gC E ad 22 k r = .inl (E 0, gRl k, .inl r) := rfl
end GC
/-- how many cells a family has -/
def gN (f : Nat) : Nat := match f with
  | 0 => 1 | 1 => 7 | 2 => 7 | 3 => 7 | 4 => 7 | 5 => 7 | 6 => 7 | 7 => 141 | 8 => 141 | 9 => 141 | 10 => 1 | 11 => 1 | 12 => 1 | 13 => 1 | 14 => 1 | 15 => 1 | 16 => 1 | 17 => 1 | 18 => 1 | 19 => 1 | 20 => 1 | 21 => 1 | 22 => 13 | _ => 0
/-- the cells of a world: the list L of (family, index) -/
def gL (E : Nat → ClassId) (ad : Nat → Nat → Nat) (L : List (Nat × Nat)) (M : gW) : va_W := L.map (fun q => (ad q.1 q.2, gC E ad q.1 q.2 (M q.1 q.2)))
theorem gL_get {E : Nat → ClassId} {ad : Nat → Nat → Nat} {L : List (Nat × Nat)} {f k : Nat} (M : gW) (h : (f, k) ∈ L) : ∃ q : Nat, L[q]? = some (f, k) ∧ (gL E ad L M)[q]? = some (ad f k, gC E ad f k (M f k)) := by
  obtain ⟨q, hq⟩ := List.getElem?_of_mem h
  exact ⟨q, hq, by rw [gL, List.getElem?_map, hq]; rfl⟩
theorem gL_set {E : Nat → ClassId} {ad : Nat → Nat → Nat} {L : List (Nat × Nat)} {f k q : Nat} (M : gW) (r : Nat → Int32) (hn : L.Nodup) (hq : L[q]? = some (f, k)) : (gL E ad L M).set q (ad f k, gC E ad f k r) = gL E ad L (gU M f k r) := by
  apply List.ext_getElem?
  intro i
  by_cases hi : i = q
  · subst hi
    have hl : i < (gL E ad L M).length := by rw [gL, List.length_map]; exact (List.getElem?_eq_some_iff.mp hq).1
    rw [List.getElem?_set_self hl, gL, List.getElem?_map, hq]
    show _ = some (ad f k, gC E ad f k (gU M f k r f k))
    rw [gU_same]
  · rw [List.getElem?_set_ne (Ne.symm hi), gL, gL, List.getElem?_map, List.getElem?_map]
    cases hx : L[i]? with
    | none => rfl
    | some x =>
      show some (ad x.1 x.2, gC E ad x.1 x.2 (M x.1 x.2)) = some (ad x.1 x.2, gC E ad x.1 x.2 (gU M f k r x.1 x.2))
      rw [gU_ne]
      intro hxy
      have e : x = (f, k) := by rw [← hxy.1, ← hxy.2]
      rw [e] at hx
      exact hi ((List.getElem?_inj (List.getElem?_eq_some_iff.mp hx).1 hn).mp (hx.trans hq.symm))
/-- the arrays' classes -/
def gT (E : Nat → ClassId) : List (ClassId × FieldType) := [(E 0, .int), (E 1, .boolean), (E 2, .char), (E 3, .object "PracticeSheets$State"), (E 4, .object "PracticeSheets$Word")]
/-- the nest mates' words -/
def gNf : List (String × Nat × String × String × String × String) := [("PracticeSheets$Practice", 41, "PracticeSheets$Word", "letters", "[I", "PracticeSheets"), ("PracticeSheets", 178, "PracticeSheets$Word", "letters", "[I", "PracticeSheets"), ("PracticeSheets$Sheet", 63, "PracticeSheets$Word", "parts", "[I", "PracticeSheets"), ("PracticeSheets$Practice", 54, "PracticeSheets$Word", "parts", "[I", "PracticeSheets"), ("PracticeSheets$Sheet", 51, "PracticeSheets$Word", "length", "I", "PracticeSheets"), ("PracticeSheets$Practice", 35, "PracticeSheets$Word", "length", "I", "PracticeSheets"), ("PracticeSheets", 158, "PracticeSheets$Word", "length", "I", "PracticeSheets"), ("PracticeSheets$Sheet", 60, "PracticeSheets$Word", "partCount", "I", "PracticeSheets"), ("PracticeSheets$Practice", 51, "PracticeSheets$Word", "partCount", "I", "PracticeSheets"), ("PracticeSheets", 165, "PracticeSheets$Word", "partCount", "I", "PracticeSheets"), ("PracticeSheets$State", 58, "PracticeSheets$WordList", "words", "[LPracticeSheets$Word;", "PracticeSheets"), ("PracticeSheets$Sheet", 44, "PracticeSheets$WordList", "words", "[LPracticeSheets$Word;", "PracticeSheets"), ("PracticeSheets$State", 57, "PracticeSheets$WordList", "size", "I", "PracticeSheets"), ("PracticeSheets$Sheet", 41, "PracticeSheets$WordList", "size", "I", "PracticeSheets"), ("PracticeSheets", 106, "PracticeSheets$WordList", "size", "I", "PracticeSheets"), ("PracticeSheets", 62, "PracticeSheets$State", "practice", "LPracticeSheets$Practice;", "PracticeSheets"), ("PracticeSheets$Sheet", 70, "PracticeSheets$State", "practice", "LPracticeSheets$Practice;", "PracticeSheets"), ("PracticeSheets$Sheet", 36, "PracticeSheets$State", "words", "LPracticeSheets$WordList;", "PracticeSheets"), ("PracticeSheets", 92, "PracticeSheets$State", "words", "LPracticeSheets$WordList;", "PracticeSheets"), ("PracticeSheets", 77, "PracticeSheets$State", "weeks", "I", "PracticeSheets"), ("PracticeSheets", 86, "PracticeSheets$State", "untried", "I", "PracticeSheets"), ("PracticeSheets$Sheet", 79, "PracticeSheets$State", "untried", "I", "PracticeSheets"), ("PracticeSheets", 70, "PracticeSheets$State", "written", "I", "PracticeSheets"), ("PracticeSheets", 74, "PracticeSheets$State", "slips", "I", "PracticeSheets"), ("PracticeSheets", 222, "PracticeSheets$State", "sheets", "I", "PracticeSheets"), ("PracticeSheets", 141, "PracticeSheets$History", "size", "I", "PracticeSheets"), ("PracticeSheets", 134, "PracticeSheets$Text", "length", "I", "PracticeSheets"), ("PracticeSheets$State", 46, "PracticeSheets$Sheet", "words", "[I", "PracticeSheets"), ("PracticeSheets", 182, "PracticeSheets$Sheet", "words", "[I", "PracticeSheets"), ("PracticeSheets", 184, "PracticeSheets$Sheet", "gains", "[I", "PracticeSheets"), ("PracticeSheets$State", 41, "PracticeSheets$Sheet", "size", "I", "PracticeSheets"), ("PracticeSheets", 125, "PracticeSheets$Sheet", "size", "I", "PracticeSheets")]
def gNm : List (String × Nat × MethodName × String) := [("PracticeSheets$Text", 30, ⟨"PracticeSheets", "isLetter", "(C)Z"⟩, "PracticeSheets"), ("PracticeSheets$Practice", 18, ⟨"PracticeSheets", "isPart", "(I)Z"⟩, "PracticeSheets"), ("PracticeSheets$Text", 40, ⟨"PracticeSheets", "letterNumber", "(C)I"⟩, "PracticeSheets"), ("PracticeSheets$Text", 47, ⟨"PracticeSheets", "joinPart", "(II)I"⟩, "PracticeSheets"), ("PracticeSheets$Word", 29, ⟨"PracticeSheets", "joinPart", "(II)I"⟩, "PracticeSheets"), ("PracticeSheets$Sheet", 66, ⟨"PracticeSheets", "isPart", "(I)Z"⟩, "PracticeSheets"), ("PracticeSheets$Practice", 48, ⟨"PracticeSheets", "joinPart", "(II)I"⟩, "PracticeSheets")]
def gNw (U : State) : Prop := (∀ (i : Nat) (q : String × Nat × String × String × String × String), gNf[i]? = some q → va_Nw (.fieldLinkNest q.1 q.2.1 q.2.2.1 q.2.2.2.1 q.2.2.2.2.1 q.2.2.2.2.2) U) ∧ (∀ (i : Nat) (q : String × Nat × MethodName × String), gNm[i]? = some q → va_Nw (.methodLinkNest q.1 q.2.1 q.2.2.1 q.2.2.2) U)
theorem gNw.warm {s U : State} (hW : s.WarmedH U.vm) (h : gNw s) : gNw U := ⟨fun i q hq => (h.1 i q hq).warmF hW, fun i q hq => (h.2 i q hq).warmM hW⟩
theorem gNw.same {u U : State} (hv : u.vm = U.vm) (h : gNw u) : gNw U := ⟨fun i q hq => (h.1 i q hq).same rfl hv, fun i q hq => (h.2 i q hq).same rfl hv⟩
/-- what stays: the addresses are apart and the method's own, the list has every cell once -/
def gF (E : Nat → ClassId) (ad : Nat → Nat → Nat) (L : List (Nat × Nat)) (A : Nat → Prop) : Prop := (∀ M : gW, va_D A (gL E ad L M)) ∧ L.Nodup
def gLx (L : List (Nat × Nat)) : Prop := ∀ f k : Nat, f < 21 → k < gN f → (f, k) ∈ L
def gLm (L : List (Nat × Nat)) : Prop := ∀ f k : Nat, 21 ≤ f → k < gN f → (f, k) ∈ L
theorem gLx.h {L : List (Nat × Nat)} {f k : Nat} (h : gLx L) (hk : k < gN f) (hf : f < 21 := by decide) : (f, k) ∈ L := h f k hf hk
theorem gLm.h {L : List (Nat × Nat)} {f k : Nat} (h : gLm L) (hk : k < gN f) (hf : 21 ≤ f := by decide) : (f, k) ∈ L := h f k hf hk
def gPre (D : va_G) (E : Nat → ClassId) (ad : Nat → Nat → Nat) (L : List (Nat × Nat)) (M : gW) : State → Prop := fun U => va_P D vwCl (gL E ad L M) U.heap ∧ va_K D vwCl (gT E) U ∧ gNw U
abbrev gPo (D : va_G) (E : Nat → ClassId) (ad : Nat → Nat → Nat) (L : List (Nat × Nat)) : gW → State → Prop := fun M t => va_P D vwCl (gL E ad L M) t.heap
abbrev gQi (D : va_G) (E : Nat → ClassId) (ad : Nat → Nat → Nat) (L : List (Nat × Nat)) (A : Nat → Prop) (K : Int32 → gW → Prop) := va_Qi K (gPo D E ad L) A
abbrev gQv (D : va_G) (E : Nat → ClassId) (ad : Nat → Nat → Nat) (L : List (Nat × Nat)) (A : Nat → Prop) (K : gW → Prop) := va_Qv K (gPo D E ad L) A
abbrev gQq (D : va_G) (E : Nat → ClassId) (ad : Nat → Nat → Nat) (L : List (Nat × Nat)) (A : Nat → Prop) (K : Option Nat → gW → Prop) := va_Qq (fun (r : Option Nat) (M : gW) => ∃ o : Option Nat, r = o.map (ad 7) ∧ K o M) (gPo D E ad L) A
theorem gPre.blind {D : va_G} {E : Nat → ClassId} {ad : Nat → Nat → Nat} {L : List (Nat × Nat)} {M : gW} (av : List Value) : FrameBlind (va_Pc av (gPre D E ad L M)) := fun a U g mk q => ⟨q.1, q.2.1, va_K.moved (u := U) (U := U.calling g mk a) (Vm.Alike.refl U.vm) q.2.2.1, q.2.2.2.same rfl⟩
theorem gPre.at {D : va_G} {E : Nat → ClassId} {ad : Nat → Nat → Nat} {L : List (Nat × Nat)} {M : gW} {s : State} {H : Heap} (hK : va_K D vwCl (gT E) s) (hN : gNw s) (hP : va_P D vwCl (gL E ad L M) H) (av : List Value) (U : State) (hU : U.heap = H) (hW : s.WarmedH U.vm) : va_Pc av (gPre D E ad L M) av.toArray U := ⟨rfl, by rw [hU]; exact hP, va_K.moved hW.alike hK, hN.warm hW⟩
/-! the classes' places -/
theorem gcl0 : vwCl[0]? = some (RX0, TX0, 2) := rfl
theorem gcl1 : vwCl[1]? = some (RX1, TX1, 2) := rfl
theorem gcl2 : vwCl[2]? = some (RX2, TX2, 1) := rfl
theorem gcl3 : vwCl[3]? = some (RX3, TX3, 5) := rfl
theorem gcl4 : vwCl[4]? = some (RX4, TX4, 7) := rfl
theorem gcl5 : vwCl[5]? = some (RX5, TX5, 3) := rfl
theorem gcl6 : vwCl[6]? = some (RX6, TX6, 4) := rfl
theorem gcl7 : vwCl[7]? = some (RX7, TX7, 2) := rfl
theorem gcl8 : vwCl[8]? = some (RX8, TX8, 8) := rfl
theorem gcl9 : vwCl[9]? = some (RX9, TX9, 19) := rfl
/-! ===== THE ROWS over the world ===== -/
section GR
variable {p : Program} {l : Launch} {e : Env} {R : Room} {s : State} {m : MethodId} {args : Array Value} {below : List Frame} {meth : Method} {c : Code} {H : Heap} {locs : List Loc} {cells slots : Nat} {Q : State → Prop}
variable {cc : ByteArray} {pc : Nat} {ls : Array Slot} {rest : List Value} {D : va_G} {A : Nat → Prop} {E : Nat → ClassId} {ad : Nat → Nat → Nat} {L : List (Nat × Nat)} {M : gW} {H0 : Heap} {f k : Nat}
theorem g_get (hx : p.tables.exec = Jvm.exec) (hb : c.code = cc) {own ref C : String} {T : u_T} {N ci index : Nat} {Ts : List Cond} (hts : ∀ w ∈ Ts, w.before args s = true) (hown : s.vm.findClass own = some m.cls) (hK : va_K D vwCl (gT E) s) (hP : va_P D vwCl (gL E ad L M) H) (hm : (f, k) ∈ L) {fs : List Value} (he : gC E ad f k (M f k) = .inr (ci, fs)) (hc : vwCl[ci]? = some (C, T, N)) (hin : ∀ w ∈ u_ws C T N, w ∈ Ts) (j : Nat) (hj : j < N) (hlink : Cond.fieldLink own index ref (T j).2.1 (T j).2.2.1 ∈ Ts) (hsame : (T j).1 = ref) {v : Value} (hv : fs[j]? = some v) (hdg : decode cc pc = .ok (.getfield index, 3))
    (kk : W p l e R s m args below meth c H locs cells slots Q (F0 m (pc + 3) ls (v :: rest))) : W p l e R s m args below meth c H locs cells slots Q (F0 m pc ls (.ref (ad f k) :: rest)) := by
  obtain ⟨q, h1, h2⟩ := gL_get (E := E) (ad := ad) M hm
  rw [he] at h2
  exact va_get hx hb hts hin hown hK hP q h2 hc j hj (hts _ hlink) (fun _ h => by rw [hsame] at h; exact h) hv hdg kk
theorem g_getN (hx : p.tables.exec = Jvm.exec) (hb : c.code = cc) {own ref C host : String} {T : u_T} {N ci index : Nat} {Ts : List Cond} (hts : ∀ w ∈ Ts, w.before args s = true) (hown : s.vm.findClass own = some m.cls) (hK : va_K D vwCl (gT E) s) (hN : gNw s) (hP : va_P D vwCl (gL E ad L M) H) (hm : (f, k) ∈ L) {fs : List Value} (he : gC E ad f k (M f k) = .inr (ci, fs)) (hc : vwCl[ci]? = some (C, T, N)) (hin : ∀ w ∈ u_ws C T N, w ∈ Ts) (j : Nat) (hj : j < N) (i : Nat) (hlink : gNf[i]? = some (own, index, ref, (T j).2.1, (T j).2.2.1, host)) (hsame : (T j).1 = ref) {v : Value} (hv : fs[j]? = some v) (hdg : decode cc pc = .ok (.getfield index, 3))
    (kk : W p l e R s m args below meth c H locs cells slots Q (F0 m (pc + 3) ls (v :: rest))) : W p l e R s m args below meth c H locs cells slots Q (F0 m pc ls (.ref (ad f k) :: rest)) := by
  obtain ⟨q, h1, h2⟩ := gL_get (E := E) (ad := ad) M hm
  rw [he] at h2
  exact va_getN hx hb hts hin hown hK hP q h2 hc j hj (va_Nw.use rfl (hN.1 i _ hlink)) (fun _ h => by rw [hsame] at h; exact h) hv hdg kk
theorem g_put (hx : p.tables.exec = Jvm.exec) (hb : c.code = cc) (hF : gF E ad L A) {own ref C : String} {T : u_T} {N ci index : Nat} {Ts : List Cond} (hts : ∀ w ∈ Ts, w.before args s = true) (hown : s.vm.findClass own = some m.cls) (hK : va_K D vwCl (gT E) s) (hP : va_P D vwCl (gL E ad L M) H) (hS : va_S A H0 H locs) (hm : (f, k) ∈ L) {fs : List Value} (he : gC E ad f k (M f k) = .inr (ci, fs)) (hc : vwCl[ci]? = some (C, T, N)) (hin : ∀ w ∈ u_ws C T N, w ∈ Ts) (ty0 : Nat → FieldType) (hty : ∀ k, k < N → parseFieldDescriptor (T k).2.2.1 = some (ty0 k)) (hnm : ∀ a, a < N → ∀ b, b < N → a ≠ b → (T a).2.1 ≠ (T b).2.1) (j : Nat) (hj : j < N) (hlink : Cond.fieldLink own index ref (T j).2.1 (T j).2.2.1 ∈ Ts) (hsame : (T j).1 = ref) (hfin : (T j).2.2.2 = false) {x : Int32} (hn : narrow (ty0 j) (.int x) = .int x) (hfit : fits (ty0 j) (.int x) = true) (hl : j < fs.length) (he' : gC E ad f k (upd (M f k) j x) = .inr (ci, fs.set j (.int x))) (hdg : decode cc pc = .ok (.putfield index, 3))
    (kk : ∀ (M1 : gW), M1 = gU M f k (upd (M f k) j x) → ∀ (H1 : Heap) (locs1 : List Loc), va_P D vwCl (gL E ad L M1) H1 → va_S A H0 H1 locs1 → W p l e R s m args below meth c H1 locs1 cells slots Q (F0 m (pc + 3) ls rest)) : W p l e R s m args below meth c H locs cells slots Q (F0 m pc ls (.int x :: .ref (ad f k) :: rest)) := by
  obtain ⟨q, h1, h2⟩ := gL_get (E := E) (ad := ad) M hm
  rw [he] at h2
  refine va_put hx hb hts hin ty0 hty hnm hown hK hP (hF.1 M) hS q h2 hc j hj (hts _ hlink) (fun _ h => by rw [hsame] at h; exact h) hfin (hty j hj) hn hfit hl hdg fun H1 locs1 hP1 _ hS1 => ?_
  refine kk _ rfl H1 locs1 ?_ hS1
  rw [← he', gL_set M _ hF.2 h1] at hP1
  exact hP1
theorem g_putN (hx : p.tables.exec = Jvm.exec) (hb : c.code = cc) (hF : gF E ad L A) {own ref C host : String} {T : u_T} {N ci index : Nat} {Ts : List Cond} (hts : ∀ w ∈ Ts, w.before args s = true) (hown : s.vm.findClass own = some m.cls) (hK : va_K D vwCl (gT E) s) (hN : gNw s) (hP : va_P D vwCl (gL E ad L M) H) (hS : va_S A H0 H locs) (hm : (f, k) ∈ L) {fs : List Value} (he : gC E ad f k (M f k) = .inr (ci, fs)) (hc : vwCl[ci]? = some (C, T, N)) (hin : ∀ w ∈ u_ws C T N, w ∈ Ts) (ty0 : Nat → FieldType) (hty : ∀ k, k < N → parseFieldDescriptor (T k).2.2.1 = some (ty0 k)) (hnm : ∀ a, a < N → ∀ b, b < N → a ≠ b → (T a).2.1 ≠ (T b).2.1) (j : Nat) (hj : j < N) (i : Nat) (hlink : gNf[i]? = some (own, index, ref, (T j).2.1, (T j).2.2.1, host)) (hsame : (T j).1 = ref) (hfin : (T j).2.2.2 = false) {x : Int32} (hn : narrow (ty0 j) (.int x) = .int x) (hfit : fits (ty0 j) (.int x) = true) (hl : j < fs.length) (he' : gC E ad f k (upd (M f k) j x) = .inr (ci, fs.set j (.int x))) (hdg : decode cc pc = .ok (.putfield index, 3))
    (kk : ∀ (M1 : gW), M1 = gU M f k (upd (M f k) j x) → ∀ (H1 : Heap) (locs1 : List Loc), va_P D vwCl (gL E ad L M1) H1 → va_S A H0 H1 locs1 → W p l e R s m args below meth c H1 locs1 cells slots Q (F0 m (pc + 3) ls rest)) : W p l e R s m args below meth c H locs cells slots Q (F0 m pc ls (.int x :: .ref (ad f k) :: rest)) := by
  obtain ⟨q, h1, h2⟩ := gL_get (E := E) (ad := ad) M hm
  rw [he] at h2
  refine va_putN hx hb hts hin ty0 hty hnm hown hK hP (hF.1 M) hS q h2 hc j hj (va_Nw.use rfl (hN.1 i _ hlink)) (fun _ h => by rw [hsame] at h; exact h) hfin (hty j hj) hn hfit hl hdg fun H1 locs1 hP1 _ hS1 => ?_
  refine kk _ rfl H1 locs1 ?_ hS1
  rw [← he', gL_set M _ hF.2 h1] at hP1
  exact hP1
theorem g_iald (hx : p.tables.exec = Jvm.exec) (hb : c.code = cc) (hK : va_K D vwCl (gT E) s) (hP : va_P D vwCl (gL E ad L M) H) (hm : (f, k) ∈ L) {n : Nat} (he : gC E ad f k (M f k) = .inl (E 0, n, .inl (M f k))) {i : Int32} (hi : vp_in i n) (hdg : decode cc pc = .ok (.iaload, 1))
    (kk : W p l e R s m args below meth c H locs cells slots Q (F0 m (pc + 1) ls (.int (M f k i.toNatClampNeg) :: rest))) : W p l e R s m args below meth c H locs cells slots Q (F0 m pc ls (.int i :: .ref (ad f k) :: rest)) := by
  obtain ⟨q, h1, h2⟩ := gL_get (E := E) (ad := ad) M hm
  rw [he] at h2
  exact va_iald hx hb hK hP q 0 h2 rfl hi hdg kk
theorem g_zald (hx : p.tables.exec = Jvm.exec) (hb : c.code = cc) (hK : va_K D vwCl (gT E) s) (hP : va_P D vwCl (gL E ad L M) H) (hm : (f, k) ∈ L) {n : Nat} (he : gC E ad f k (M f k) = .inl (E 1, n, .inl (M f k))) {i : Int32} (hi : vp_in i n) (hdg : decode cc pc = .ok (.baload, 1))
    (kk : W p l e R s m args below meth c H locs cells slots Q (F0 m (pc + 1) ls (.int (M f k i.toNatClampNeg) :: rest))) : W p l e R s m args below meth c H locs cells slots Q (F0 m pc ls (.int i :: .ref (ad f k) :: rest)) := by
  obtain ⟨q, h1, h2⟩ := gL_get (E := E) (ad := ad) M hm
  rw [he] at h2
  exact va_zald hx hb hK hP q 1 h2 rfl hi hdg kk
theorem g_cald (hx : p.tables.exec = Jvm.exec) (hb : c.code = cc) (hK : va_K D vwCl (gT E) s) (hP : va_P D vwCl (gL E ad L M) H) (hm : (f, k) ∈ L) {n : Nat} (he : gC E ad f k (M f k) = .inl (E 2, n, .inl (M f k))) {i : Int32} (hi : vp_in i n) (hdg : decode cc pc = .ok (.caload, 1))
    (kk : W p l e R s m args below meth c H locs cells slots Q (F0 m (pc + 1) ls (.int (M f k i.toNatClampNeg) :: rest))) : W p l e R s m args below meth c H locs cells slots Q (F0 m pc ls (.int i :: .ref (ad f k) :: rest)) := by
  obtain ⟨q, h1, h2⟩ := gL_get (E := E) (ad := ad) M hm
  rw [he] at h2
  exact va_cald hx hb hK hP q 2 h2 rfl hi hdg kk
theorem g_iast (hx : p.tables.exec = Jvm.exec) (hb : c.code = cc) (hF : gF E ad L A) (hK : va_K D vwCl (gT E) s) (hP : va_P D vwCl (gL E ad L M) H) (hS : va_S A H0 H locs) (hm : (f, k) ∈ L) {n : Nat} (he : ∀ r, gC E ad f k r = .inl (E 0, n, .inl r)) {i x : Int32} (hi : vp_in i n) (hdg : decode cc pc = .ok (.iastore, 1))
    (kk : ∀ (M1 : gW), M1 = gU M f k (upd (M f k) i.toNatClampNeg x) → ∀ (H1 : Heap) (locs1 : List Loc), va_P D vwCl (gL E ad L M1) H1 → va_S A H0 H1 locs1 → W p l e R s m args below meth c H1 locs1 cells slots Q (F0 m (pc + 1) ls rest)) : W p l e R s m args below meth c H locs cells slots Q (F0 m pc ls (.int x :: .int i :: .ref (ad f k) :: rest)) := by
  obtain ⟨q, h1, h2⟩ := gL_get (E := E) (ad := ad) M hm
  rw [he] at h2
  refine va_iast hx hb hK hP (hF.1 M) hS q 0 h2 rfl hi hdg fun H1 locs1 hP1 _ hS1 => kk _ rfl H1 locs1 ?_ hS1
  rw [← he, gL_set M _ hF.2 h1] at hP1
  exact hP1
theorem g_zast (hx : p.tables.exec = Jvm.exec) (hb : c.code = cc) (hF : gF E ad L A) (hK : va_K D vwCl (gT E) s) (hP : va_P D vwCl (gL E ad L M) H) (hS : va_S A H0 H locs) (hm : (f, k) ∈ L) {n : Nat} (he : ∀ r, gC E ad f k r = .inl (E 1, n, .inl r)) {i x : Int32} (hi : vp_in i n) (hnar : vp_nar .boolean x = x) (hdg : decode cc pc = .ok (.bastore, 1))
    (kk : ∀ (M1 : gW), M1 = gU M f k (upd (M f k) i.toNatClampNeg x) → ∀ (H1 : Heap) (locs1 : List Loc), va_P D vwCl (gL E ad L M1) H1 → va_S A H0 H1 locs1 → W p l e R s m args below meth c H1 locs1 cells slots Q (F0 m (pc + 1) ls rest)) : W p l e R s m args below meth c H locs cells slots Q (F0 m pc ls (.int x :: .int i :: .ref (ad f k) :: rest)) := by
  obtain ⟨q, h1, h2⟩ := gL_get (E := E) (ad := ad) M hm
  rw [he] at h2
  refine va_zast hx hb hK hP (hF.1 M) hS q 1 h2 rfl hi hdg fun H1 locs1 hP1 _ hS1 => kk _ rfl H1 locs1 ?_ hS1
  rw [hnar, ← he, gL_set M _ hF.2 h1] at hP1
  exact hP1
theorem g_cast (hx : p.tables.exec = Jvm.exec) (hb : c.code = cc) (hF : gF E ad L A) (hK : va_K D vwCl (gT E) s) (hP : va_P D vwCl (gL E ad L M) H) (hS : va_S A H0 H locs) (hm : (f, k) ∈ L) {n : Nat} (he : ∀ r, gC E ad f k r = .inl (E 2, n, .inl r)) {i x : Int32} (hi : vp_in i n) (hnar : vp_nar .char x = x) (hdg : decode cc pc = .ok (.castore, 1))
    (kk : ∀ (M1 : gW), M1 = gU M f k (upd (M f k) i.toNatClampNeg x) → ∀ (H1 : Heap) (locs1 : List Loc), va_P D vwCl (gL E ad L M1) H1 → va_S A H0 H1 locs1 → W p l e R s m args below meth c H1 locs1 cells slots Q (F0 m (pc + 1) ls rest)) : W p l e R s m args below meth c H locs cells slots Q (F0 m pc ls (.int x :: .int i :: .ref (ad f k) :: rest)) := by
  obtain ⟨q, h1, h2⟩ := gL_get (E := E) (ad := ad) M hm
  rw [he] at h2
  refine va_cast hx hb hK hP (hF.1 M) hS q 2 h2 rfl hi hdg fun H1 locs1 hP1 _ hS1 => kk _ rfl H1 locs1 ?_ hS1
  rw [hnar, ← he, gL_set M _ hF.2 h1] at hP1
  exact hP1
theorem g_aldw (hx : p.tables.exec = Jvm.exec) (hb : c.code = cc) (hK : va_K D vwCl (gT E) s) (hP : va_P D vwCl (gL E ad L M) H) (hm : (6, k) ∈ L) {i : Int32} (hi : vp_in i 20) (hdg : decode cc pc = .ok (.aaload, 1))
    (kk : W p l e R s m args below meth c H locs cells slots Q (F0 m (pc + 1) ls (.ref (ad 7 (20 * k + i.toNatClampNeg)) :: rest))) : W p l e R s m args below meth c H locs cells slots Q (F0 m pc ls (.int i :: .ref (ad 6 k) :: rest)) := by
  obtain ⟨q, h1, h2⟩ := gL_get (E := E) (ad := ad) M hm
  rw [gC6] at h2
  exact va_aldq hx hb hK hP q 4 h2 rfl hi hdg kk
theorem g_alds (hx : p.tables.exec = Jvm.exec) (hb : c.code = cc) (hK : va_K D vwCl (gT E) s) (hP : va_P D vwCl (gL E ad L M) H) (hm : (11, 0) ∈ L) {i : Int32} (hi : vp_in i 4) (hdg : decode cc pc = .ok (.aaload, 1))
    (kk : W p l e R s m args below meth c H locs cells slots Q (F0 m (pc + 1) ls (.ref (ad 1 (M 11 0 i.toNatClampNeg).toNatClampNeg) :: rest))) : W p l e R s m args below meth c H locs cells slots Q (F0 m pc ls (.int i :: .ref (ad 11 0) :: rest)) := by
  obtain ⟨q, h1, h2⟩ := gL_get (E := E) (ad := ad) M hm
  rw [gC11] at h2
  exact va_aldq hx hb hK hP q 3 h2 rfl hi hdg kk
theorem g_asts (hx : p.tables.exec = Jvm.exec) (hb : c.code = cc) (hF : gF E ad L A) (hK : va_K D vwCl (gT E) s) (hP : va_P D vwCl (gL E ad L M) H) (hS : va_S A H0 H locs) (hm : (11, 0) ∈ L) {j : Nat} (hj : j < 7) (hmj : (1, j) ∈ L) {i : Int32} (hi : vp_in i 4) (hdg : decode cc pc = .ok (.aastore, 1))
    (kk : ∀ (M1 : gW), M1 = gU M 11 0 (upd (M 11 0) i.toNatClampNeg (nI j)) → ∀ (H1 : Heap) (locs1 : List Loc), va_P D vwCl (gL E ad L M1) H1 → va_S A H0 H1 locs1 → W p l e R s m args below meth c H1 locs1 cells slots Q (F0 m (pc + 1) ls rest)) : W p l e R s m args below meth c H locs cells slots Q (F0 m pc ls (.ref (ad 1 j) :: .int i :: .ref (ad 11 0) :: rest)) := by
  obtain ⟨q, h1, h2⟩ := gL_get (E := E) (ad := ad) M hm
  rw [gC11] at h2
  obtain ⟨q', -, h4⟩ := gL_get (E := E) (ad := ad) M hmj
  rw [gC1] at h4
  refine va_astq hx hb hK hP (hF.1 M) hS q 3 q' 4 h2 (r := (RX4, TX4, 7)) rfl h4 rfl hi hdg fun H1 locs1 hP1 _ hS1 => kk _ rfl H1 locs1 ?_ hS1
  have e2 : va_up (fun z => some (ad 1 (M 11 0 z).toNatClampNeg)) i.toNatClampNeg (some (ad 1 j)) = (fun z => some (ad 1 (upd (M 11 0) i.toNatClampNeg (nI j) z).toNatClampNeg)) := by
    funext z
    by_cases hz : z = i.toNatClampNeg
    · subst hz
      simp only [va_up, if_true, upd]
      rw [nI_clamp (by omega)]
    · simp only [va_up, upd, if_neg hz]
  rw [e2] at hP1
  rw [← gL_set M _ hF.2 h1, gC11]
  exact hP1
theorem g_cpy (hx : p.tables.exec = Jvm.exec) (hb : c.code = cc) (hml : c.maxLocals = ls.size) (hF : gF E ad L A) {own : String} {index : Nat} (hown : s.vm.findClass own = some m.cls) {Ts : List Cond} (hts : ∀ w ∈ Ts, w.before args s = true) (hlink : Cond.methodLink own index arraycopyName ∈ Ts) (hnat : Cond.native arraycopyName ∈ Ts) (hstat : Cond.static arraycopyName ∈ Ts) (hini : Cond.initialized "java/lang/System" ∈ Ts)
    (hK : va_K D vwCl (gT E) s) (hP : va_P D vwCl (gL E ad L M) H) (hS : va_S A H0 H locs) {f' k' n0 n1 : Nat} (hm' : (f', k') ∈ L) (hm : (f, k) ∈ L) (he' : gC E ad f' k' (M f' k') = .inl (E 0, n0, .inl (M f' k'))) (he : ∀ r, gC E ad f k r = .inl (E 0, n1, .inl r)) {n : Int32} {N : Nat} (hn : n = nI N) (hN : N < 2 ^ 31) (h4 : N ≤ n0) (h5 : N ≤ n1) (hframes : 1 ≤ R.frames) (hlocals : (rest.map fun v => v.category).sum + 18 ≤ R.locals) (hdg : decode cc pc = .ok (.invokestatic index, 3))
    (kk : ∀ (M1 : gW), M1 = gU M f k (va_cpy (M f' k') (M f k) 0 0 N) → ∀ (H1 : Heap) (locs1 : List Loc), va_P D vwCl (gL E ad L M1) H1 → va_S A H0 H1 locs1 → W p l e R s m args below meth c H1 locs1 cells slots Q (F0 m (pc + 3) ls rest)) : W p l e R s m args below meth c H locs cells slots Q (F0 m pc ls (.int n :: .int 0 :: .ref (ad f k) :: .int 0 :: .ref (ad f' k') :: rest)) := by
  obtain ⟨q', h1', h2'⟩ := gL_get (E := E) (ad := ad) M hm'
  obtain ⟨q, h1, h2⟩ := gL_get (E := E) (ad := ad) M hm
  rw [he'] at h2'
  rw [he] at h2
  subst hn
  have z0 : (0 : Int32).toNatClampNeg = 0 := rfl
  have zN : (nI N).toNatClampNeg = N := nI_clamp hN
  refine va_copyi hx hb hml hown (hts _ hlink) (hts _ hnat) (hts _ hstat) (hts _ hini) hK hP (hF.1 M) hS q' q 0 0 h2' h2 (ty := .int) rfl rfl rfl (by decide) (by decide) (nI_pos hN) (by rw [z0, zN]; omega) (by rw [z0, zN]; omega) (fun i _ => rfl) hframes hlocals hdg fun H1 locs1 hP1 _ hS1 => kk _ rfl H1 locs1 ?_ hS1
  rw [z0, zN, ← he, gL_set M _ hF.2 h1] at hP1
  exact hP1
/-! calls -/
variable {y : MethodName} {bytes : ByteArray} {maxL nL n index : Nat} {ret : Option FieldType} {ws Ts : List Cond} {rm : Room} {own C : String} {As : List Value} {st : List Value}
theorem g_Vi {K : Int32 → gW → Prop} (S : CallFix p m c cc nL s args Ts own) (hK : va_K D vwCl (gT E) s) (hN : gNw s) (hP : va_P D vwCl (gL E ad L M) H) (hS : va_S A H0 H locs) (hM : Met l y ws rm (va_Pc (.ref (ad f k) :: As) (gPre D E ad L M)) (gQi D E ad L A K) 0 0 A) (cw : CallW R s args own C index y bytes maxL ret ws rm 0 0 n) (hm : (f, k) ∈ L) {fs : List Value} {ci : Nat} {q : vw_C} (he : gC E ad f k (M f k) = .inr (ci, fs)) (hc : vwCl[ci]? = some q) (hq : q.1 = C) (hst : st = As.reverse ++ .ref (ad f k) :: rest) (hn : As.length = n) (hsize : ls.size = nL) (hW : (rest.map fun v => v.category).sum ≤ 8) (hf : cells ≤ R.cells ∧ slots ≤ R.slots) (hdg : decode cc pc = .ok (.invokevirtual index, 3))
    (kk : ∀ (r : Int32) (M' : gW) (H1 : Heap) (locs1 : List Loc), K r M' → va_P D vwCl (gL E ad L M') H1 → va_S A H0 H1 locs1 → W p l e R s m args below meth c H1 locs1 cells slots Q (F0 m (pc + 3) ls (.int r :: rest))) : W p l e R s m args below meth c H locs cells slots Q (F0 m pc ls st) := by
  subst hst
  obtain ⟨q0, -, h2⟩ := gL_get (E := E) (ad := ad) M hm
  rw [he] at h2
  refine va_calli (va_runV (As := As) (rest := rest) (b := ad f k) S hM cw ⟨gPre.blind _, by rw [← hq]; exact va_recv hK hP hc h2, fun U hU hW => gPre.at hK hN hP _ U hU hW⟩ rfl hn hsize rfl (lv_room hW) hdg hf) hS (fun _ _ h => h) (fun _ h => h) (fun r u t H1 locs1 ht _ hw hB _ _ hS1 => kk r u H1 locs1 hw ?_ hS1)
  rw [← ht]; exact hB
theorem g_Si {K : Int32 → gW → Prop} (S : CallFix p m c cc nL s args Ts own) (hK : va_K D vwCl (gT E) s) (hN : gNw s) (hP : va_P D vwCl (gL E ad L M) H) (hS : va_S A H0 H locs) (hM : Met l y ws rm (va_Pc As (gPre D E ad L M)) (gQi D E ad L A K) 0 0 A) (cw : CallB R s args own index y bytes maxL ret ws rm 0 0 n ∧ (Cond.static y).before args s = true) (hst : st = As.reverse ++ rest) (hn : As.length = n) (hsize : ls.size = nL) (hW : (rest.map fun v => v.category).sum ≤ 8) (hf : cells ≤ R.cells ∧ slots ≤ R.slots) (hdg : decode cc pc = .ok (.invokestatic index, 3))
    (kk : ∀ (r : Int32) (M' : gW) (H1 : Heap) (locs1 : List Loc), K r M' → va_P D vwCl (gL E ad L M') H1 → va_S A H0 H1 locs1 → W p l e R s m args below meth c H1 locs1 cells slots Q (F0 m (pc + 3) ls (.int r :: rest))) : W p l e R s m args below meth c H locs cells slots Q (F0 m pc ls st) := by
  subst hst
  refine va_calli (va_runS (As := As) (rest := rest) S hM cw ⟨gPre.blind _, fun U hU hW => gPre.at hK hN hP _ U hU hW⟩ rfl hn hsize rfl (lv_room hW) hdg hf) hS (fun _ _ h => h) (fun _ h => h) (fun r u t H1 locs1 ht _ hw hB _ _ hS1 => kk r u H1 locs1 hw ?_ hS1)
  rw [← ht]; exact hB
theorem g_SNi {host : String} {K : Int32 → gW → Prop} (S : CallFix p m c cc nL s args Ts own) (hK : va_K D vwCl (gT E) s) (hN : gNw s) (hP : va_P D vwCl (gL E ad L M) H) (hS : va_S A H0 H locs) (hM : Met l y ws rm (va_Pc As (gPre D E ad L M)) (gQi D E ad L A K) 0 0 A) (cw : va_CN R s args own index y host bytes maxL ret ws rm 0 0 n ∧ (Cond.static y).before args s = true ∧ True) (hst : st = As.reverse ++ rest) (hn : As.length = n) (hsize : ls.size = nL) (hW : (rest.map fun v => v.category).sum ≤ 8) (hf : cells ≤ R.cells ∧ slots ≤ R.slots) (hdg : decode cc pc = .ok (.invokestatic index, 3))
    (kk : ∀ (r : Int32) (M' : gW) (H1 : Heap) (locs1 : List Loc), K r M' → va_P D vwCl (gL E ad L M') H1 → va_S A H0 H1 locs1 → W p l e R s m args below meth c H1 locs1 cells slots Q (F0 m (pc + 3) ls (.int r :: rest))) : W p l e R s m args below meth c H locs cells slots Q (F0 m pc ls st) := by
  subst hst
  refine va_calli (va_runSN (As := As) (rest := rest) S hM cw ⟨gPre.blind _, fun U hU hW => gPre.at hK hN hP _ U hU hW⟩ rfl hn hsize rfl (lv_room hW) hdg hf) hS (fun _ _ h => h) (fun _ h => h) (fun r u t H1 locs1 ht _ hw hB _ _ hS1 => kk r u H1 locs1 hw ?_ hS1)
  rw [← ht]; exact hB
theorem g_Vv {K : gW → Prop} (S : CallFix p m c cc nL s args Ts own) (hK : va_K D vwCl (gT E) s) (hN : gNw s) (hP : va_P D vwCl (gL E ad L M) H) (hS : va_S A H0 H locs) (hM : Met l y ws rm (va_Pc (.ref (ad f k) :: As) (gPre D E ad L M)) (gQv D E ad L A K) 0 0 A) (cw : CallW R s args own C index y bytes maxL ret ws rm 0 0 n) (hm : (f, k) ∈ L) {fs : List Value} {ci : Nat} {q : vw_C} (he : gC E ad f k (M f k) = .inr (ci, fs)) (hc : vwCl[ci]? = some q) (hq : q.1 = C) (hst : st = As.reverse ++ .ref (ad f k) :: rest) (hn : As.length = n) (hsize : ls.size = nL) (hW : (rest.map fun v => v.category).sum ≤ 8) (hf : cells ≤ R.cells ∧ slots ≤ R.slots) (hdg : decode cc pc = .ok (.invokevirtual index, 3))
    (kk : ∀ (M' : gW) (H1 : Heap) (locs1 : List Loc), K M' → va_P D vwCl (gL E ad L M') H1 → va_S A H0 H1 locs1 → W p l e R s m args below meth c H1 locs1 cells slots Q (F0 m (pc + 3) ls rest)) : W p l e R s m args below meth c H locs cells slots Q (F0 m pc ls st) := by
  subst hst
  obtain ⟨q0, -, h2⟩ := gL_get (E := E) (ad := ad) M hm
  rw [he] at h2
  refine va_callv (va_runV (As := As) (rest := rest) (b := ad f k) S hM cw ⟨gPre.blind _, by rw [← hq]; exact va_recv hK hP hc h2, fun U hU hW => gPre.at hK hN hP _ U hU hW⟩ rfl hn hsize rfl (lv_room hW) hdg hf) hS (fun _ _ h => h) (fun _ h => h) (fun u t H1 locs1 ht _ hw hB _ _ hS1 => kk u H1 locs1 hw ?_ hS1)
  rw [← ht]; exact hB
theorem g_Sv {K : gW → Prop} (S : CallFix p m c cc nL s args Ts own) (hK : va_K D vwCl (gT E) s) (hN : gNw s) (hP : va_P D vwCl (gL E ad L M) H) (hS : va_S A H0 H locs) (hM : Met l y ws rm (va_Pc As (gPre D E ad L M)) (gQv D E ad L A K) 0 0 A) (cw : CallB R s args own index y bytes maxL ret ws rm 0 0 n ∧ (Cond.static y).before args s = true) (hst : st = As.reverse ++ rest) (hn : As.length = n) (hsize : ls.size = nL) (hW : (rest.map fun v => v.category).sum ≤ 8) (hf : cells ≤ R.cells ∧ slots ≤ R.slots) (hdg : decode cc pc = .ok (.invokestatic index, 3))
    (kk : ∀ (M' : gW) (H1 : Heap) (locs1 : List Loc), K M' → va_P D vwCl (gL E ad L M') H1 → va_S A H0 H1 locs1 → W p l e R s m args below meth c H1 locs1 cells slots Q (F0 m (pc + 3) ls rest)) : W p l e R s m args below meth c H locs cells slots Q (F0 m pc ls st) := by
  subst hst
  refine va_callv (va_runS (As := As) (rest := rest) S hM cw ⟨gPre.blind _, fun U hU hW => gPre.at hK hN hP _ U hU hW⟩ rfl hn hsize rfl (lv_room hW) hdg hf) hS (fun _ _ h => h) (fun _ h => h) (fun u t H1 locs1 ht _ hw hB _ _ hS1 => kk u H1 locs1 hw ?_ hS1)
  rw [← ht]; exact hB
theorem g_SNv {host : String} {K : gW → Prop} (S : CallFix p m c cc nL s args Ts own) (hK : va_K D vwCl (gT E) s) (hN : gNw s) (hP : va_P D vwCl (gL E ad L M) H) (hS : va_S A H0 H locs) (hM : Met l y ws rm (va_Pc As (gPre D E ad L M)) (gQv D E ad L A K) 0 0 A) (cw : va_CN R s args own index y host bytes maxL ret ws rm 0 0 n ∧ (Cond.static y).before args s = true ∧ True) (hst : st = As.reverse ++ rest) (hn : As.length = n) (hsize : ls.size = nL) (hW : (rest.map fun v => v.category).sum ≤ 8) (hf : cells ≤ R.cells ∧ slots ≤ R.slots) (hdg : decode cc pc = .ok (.invokestatic index, 3))
    (kk : ∀ (M' : gW) (H1 : Heap) (locs1 : List Loc), K M' → va_P D vwCl (gL E ad L M') H1 → va_S A H0 H1 locs1 → W p l e R s m args below meth c H1 locs1 cells slots Q (F0 m (pc + 3) ls rest)) : W p l e R s m args below meth c H locs cells slots Q (F0 m pc ls st) := by
  subst hst
  refine va_callv (va_runSN (As := As) (rest := rest) S hM cw ⟨gPre.blind _, fun U hU hW => gPre.at hK hN hP _ U hU hW⟩ rfl hn hsize rfl (lv_room hW) hdg hf) hS (fun _ _ h => h) (fun _ h => h) (fun u t H1 locs1 ht _ hw hB _ _ hS1 => kk u H1 locs1 hw ?_ hS1)
  rw [← ht]; exact hB
theorem g_Vq {K : Option Nat → gW → Prop} (S : CallFix p m c cc nL s args Ts own) (hK : va_K D vwCl (gT E) s) (hN : gNw s) (hP : va_P D vwCl (gL E ad L M) H) (hS : va_S A H0 H locs) (hM : Met l y ws rm (va_Pc (.ref (ad f k) :: As) (gPre D E ad L M)) (gQq D E ad L A K) 0 0 A) (cw : CallW R s args own C index y bytes maxL ret ws rm 0 0 n) (hm : (f, k) ∈ L) {fs : List Value} {ci : Nat} {q : vw_C} (he : gC E ad f k (M f k) = .inr (ci, fs)) (hc : vwCl[ci]? = some q) (hq : q.1 = C) (hst : st = As.reverse ++ .ref (ad f k) :: rest) (hn : As.length = n) (hsize : ls.size = nL) (hW : (rest.map fun v => v.category).sum ≤ 8) (hf : cells ≤ R.cells ∧ slots ≤ R.slots) (hdg : decode cc pc = .ok (.invokevirtual index, 3))
    (kN : ∀ (M' : gW) (H1 : Heap) (locs1 : List Loc), K none M' → va_P D vwCl (gL E ad L M') H1 → va_S A H0 H1 locs1 → W p l e R s m args below meth c H1 locs1 cells slots Q (F0 m (pc + 3) ls (.null :: rest)))
    (kS : ∀ (o : Nat) (M' : gW) (H1 : Heap) (locs1 : List Loc), K (some o) M' → va_P D vwCl (gL E ad L M') H1 → va_S A H0 H1 locs1 → W p l e R s m args below meth c H1 locs1 cells slots Q (F0 m (pc + 3) ls (.ref (ad 7 o) :: rest))) : W p l e R s m args below meth c H locs cells slots Q (F0 m pc ls st) := by
  subst hst
  obtain ⟨q0, -, h2⟩ := gL_get (E := E) (ad := ad) M hm
  rw [he] at h2
  refine va_callq (va_runV (As := As) (rest := rest) (b := ad f k) S hM cw ⟨gPre.blind _, by rw [← hq]; exact va_recv hK hP hc h2, fun U hU hW => gPre.at hK hN hP _ U hU hW⟩ rfl hn hsize rfl (lv_room hW) hdg hf) hS (fun _ _ h => h) (fun _ h => h) (fun r u t H1 locs1 ht _ hw hB _ _ hS1 => ?_)
  rw [gPo, ht] at hB
  obtain ⟨o, rfl, hw⟩ := hw
  cases o with
  | none => exact kN u H1 locs1 hw hB hS1
  | some o => exact kS o u H1 locs1 hw hB hS1
/-! ends -/
theorem g_iret {K : Int32 → gW → Prop} (hx : p.tables.exec = Jvm.exec) (hb : c.code = cc) (hr : meth.sig.returnType = some .int) (hlocks : meth.locks = false) {v : Int32} (hw : K v M) (hP : va_P D vwCl (gL E ad L M) H) (hS : va_S A s.heap H locs) (hdg : decode cc pc = .ok (.ireturn, 1)) : W p l e R s m args below meth c H locs cells slots (MQ below (gQi D E ad L A K) args s cells slots A) (F0 m pc ls [.int v]) :=
  W.iret hx hb hr (fun t ht _ => ⟨⟨v, M, rfl, hw, by rw [gPo, ht]; exact hP⟩, hS.F ht⟩) hS.2.2 hdg hlocks
theorem g_zret {K : Int32 → gW → Prop} (hx : p.tables.exec = Jvm.exec) (hb : c.code = cc) (hr : meth.sig.returnType = some .boolean) (hlocks : meth.locks = false) {v : Int32} (hv : v = 0 ∨ v = 1) (hw : K v M) (hP : va_P D vwCl (gL E ad L M) H) (hS : va_S A s.heap H locs) (hdg : decode cc pc = .ok (.ireturn, 1)) : W p l e R s m args below meth c H locs cells slots (MQ below (gQi D E ad L A K) args s cells slots A) (F0 m pc ls [.int v]) :=
  W.zret hx hb hr (by rcases hv with rfl | rfl <;> rfl) (fun t ht _ => ⟨⟨v, M, rfl, hw, by rw [gPo, ht]; exact hP⟩, hS.F ht⟩) hS.2.2 hdg hlocks
theorem g_vret {K : gW → Prop} (hx : p.tables.exec = Jvm.exec) (hb : c.code = cc) (hr : meth.sig.returnType = none) (hlocks : meth.locks = false) (hw : K M) (hP : va_P D vwCl (gL E ad L M) H) (hS : va_S A s.heap H locs) (hdg : decode cc pc = .ok (.return_, 1)) : W p l e R s m args below meth c H locs cells slots (MQ below (gQv D E ad L A K) args s cells slots A) (F0 m pc ls []) :=
  W.vret hx hb hr (fun t ht _ => ⟨⟨M, rfl, hw, by rw [gPo, ht]; exact hP⟩, hS.F ht⟩) hS.2.2 hdg hlocks
theorem g_aret {K : Option Nat → gW → Prop} {rn : String} (hx : p.tables.exec = Jvm.exec) (hb : c.code = cc) (hr : meth.sig.returnType = some (.object rn)) (hlocks : meth.locks = false) {o : Nat} (hw : K (some o) M) (hP : va_P D vwCl (gL E ad L M) H) (hS : va_S A s.heap H locs) (hdg : decode cc pc = .ok (.areturn, 1)) : W p l e R s m args below meth c H locs cells slots (MQ below (gQq D E ad L A K) args s cells slots A) (F0 m pc ls [.ref (ad 7 o)]) :=
  W.aret hx hb hr (Or.inl ⟨_, rfl⟩) (Or.inr ⟨_, rfl⟩) (fun t ht _ => ⟨⟨some (ad 7 o), M, rfl, ⟨some o, rfl, hw⟩, by rw [gPo, ht]; exact hP⟩, hS.F ht⟩) hS.2.2 hdg hlocks
theorem g_aretN {K : Option Nat → gW → Prop} {rn : String} (hx : p.tables.exec = Jvm.exec) (hb : c.code = cc) (hr : meth.sig.returnType = some (.object rn)) (hlocks : meth.locks = false) (hw : K none M) (hP : va_P D vwCl (gL E ad L M) H) (hS : va_S A s.heap H locs) (hdg : decode cc pc = .ok (.areturn, 1)) : W p l e R s m args below meth c H locs cells slots (MQ below (gQq D E ad L A K) args s cells slots A) (F0 m pc ls [.null]) :=
  W.aret hx hb hr (Or.inl ⟨_, rfl⟩) (Or.inl rfl) (fun t ht _ => ⟨⟨none, M, rfl, ⟨none, rfl, hw⟩, by rw [gPo, ht]; exact hP⟩, hS.F ht⟩) hS.2.2 hdg hlocks
/-! switches -/
theorem g_swK (hx : p.tables.exec = Jvm.exec) (hb : c.code = cc) {dflt hi : Int} {offs : Array Int} {len : Nat} {x : Int32} {off : Int} {tgt : Nat} (hdg : decode cc pc = .ok (.tableswitch dflt 0 hi offs, len)) (i : Nat) (hxi : x = nI i) (hi31 : i < 2 ^ 31) (hhi : (i : Int) ≤ hi) (ho : offs[i]? = some off) (ht : (pc : Int) + off = (tgt : Int))
    (kk : W p l e R s m args below meth c H locs cells slots Q (F0 m tgt ls rest)) : W p l e R s m args below meth c H locs cells slots Q (F0 m pc ls (.int x :: rest)) := by
  subst hxi
  have h := nI_toInt hi31
  refine lv_tableIn hx hb hdg (by omega) (by omega) (off := off) ?_ ht kk
  rw [h, show ((i : Int) - 0).toNat = i by omega]
  exact ho
end GR
theorem g_ne {x : Int32} {i : Nat} (hi : i < 2 ^ 31) (h : ¬ x = nI i) : x.toInt ≠ (i : Int) := fun z => h (Int32.toInt_inj.mp (by rw [z, nI_toInt hi]))
theorem g_word {j : Nat} {i : Int32} (hj : j < 7) (hi : vp_in i 20) : 20 * j + i.toNatClampNeg < 141 := by
  have : i.toNatClampNeg < 20 := Nat.not_le.mp fun q => hi (Or.inr q)
  omega
