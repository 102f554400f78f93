/-! ===== LAYER 3: the start: classes, arrays, nest mates (printed by wip/whole/lawgen.py) ===== -/
set_option maxRecDepth 100000 in
theorem nF_in : gNf.map (fun q => Cond.fieldLinkNest q.1 q.2.1 q.2.2.1 q.2.2.2.1 q.2.2.2.2.1 q.2.2.2.2.2) = ([95, 96, 98, 99, 101, 102, 103, 105, 106, 107, 118, 119, 121, 122, 123, 130, 131, 133, 134, 136, 138, 139, 141, 143, 145, 172, 189, 205, 206, 208, 212, 213] : List Nat).filterMap (fun i => lw_tbl[i]?) := by decide +kernel
set_option maxRecDepth 100000 in
theorem nM_in : gNm.map (fun q => Cond.methodLinkNest q.1 q.2.1 q.2.2.1 q.2.2.2) = ([272, 311, 314, 321, 368, 420, 446] : List Nat).filterMap (fun i => lw_tbl[i]?) := by decide +kernel
theorem fm_mem {l : List Cond} {is : List Nat} {w : Cond} (h : w ∈ is.filterMap (fun i => l[i]?)) : w ∈ l := by
  obtain ⟨i, -, hi⟩ := List.mem_filterMap.mp h
  exact List.mem_of_getElem? hi
theorem gNw_start {A : Array Value} {s : State} (hts : ∀ w ∈ lw_tbl, w.before A s = true) : gNw s := by
  refine ⟨fun i q hq => va_Nw.of rfl (hts _ (fm_mem (is := [95, 96, 98, 99, 101, 102, 103, 105, 106, 107, 118, 119, 121, 122, 123, 130, 131, 133, 134, 136, 138, 139, 141, 143, 145, 172, 189, 205, 206, 208, 212, 213]) ?_)), fun i q hq => va_Nw.of rfl (hts _ (fm_mem (is := [272, 311, 314, 321, 368, 420, 446]) ?_))⟩
  · rw [← nF_in]
    exact List.mem_map.mpr ⟨q, List.mem_of_getElem? hq, rfl⟩
  · rw [← nM_in]
    exact List.mem_map.mpr ⟨q, List.mem_of_getElem? hq, rfl⟩
set_option maxRecDepth 100000 in
theorem kn_start {A : Array Value} {s : State} (hts : ∀ w ∈ lw_tbl, w.before A s = true) : ∃ D : va_G, ∀ (c : Nat) (q : vw_C), vwCl[c]? = some q → u_Kn s q.1 q.2.1 q.2.2 (D.1 c) (D.2 c) := by
  have h : ∀ c : Nat, ∃ (cC : ClassId) (iS : Nat → Nat), ∀ q : vw_C, vwCl[c]? = some q → u_Kn s q.1 q.2.1 q.2.2 cC iS := by
    intro c
    match c with
    | 0 =>
      obtain ⟨a, b, k⟩ := u_known (C := RX0) (T := TX0) (N := 2) (n := 2) hts inX0 (hts _ (List.mem_of_getElem? (i := 162) (by decide +kernel)))
      exact ⟨a, b, fun q hq => by cases hq; exact k⟩
    | 1 =>
      obtain ⟨a, b, k⟩ := u_known (C := RX1) (T := TX1) (N := 2) (n := 2) hts inX1 (hts _ (List.mem_of_getElem? (i := 68) (by decide +kernel)))
      exact ⟨a, b, fun q hq => by cases hq; exact k⟩
    | 2 =>
      obtain ⟨a, b, k⟩ := u_known (C := RX2) (T := TX2) (N := 1) (n := 1) hts inX2 (hts _ (List.mem_of_getElem? (i := 227) (by decide +kernel)))
      exact ⟨a, b, fun q hq => by cases hq; exact k⟩
    | 3 =>
      obtain ⟨a, b, k⟩ := u_known (C := RX3) (T := TX3) (N := 5) (n := 5) hts inX3 (hts _ (List.mem_of_getElem? (i := 199) (by decide +kernel)))
      exact ⟨a, b, fun q hq => by cases hq; exact k⟩
    | 4 =>
      obtain ⟨a, b, k⟩ := u_known (C := RX4) (T := TX4) (N := 7) (n := 7) hts inX4 (hts _ (List.mem_of_getElem? (i := 62) (by decide +kernel)))
      exact ⟨a, b, fun q hq => by cases hq; exact k⟩
    | 5 =>
      obtain ⟨a, b, k⟩ := u_known (C := RX5) (T := TX5) (N := 3) (n := 3) hts inX5 (hts _ (List.mem_of_getElem? (i := 179) (by decide +kernel)))
      exact ⟨a, b, fun q hq => by cases hq; exact k⟩
    | 6 =>
      obtain ⟨a, b, k⟩ := u_known (C := RX6) (T := TX6) (N := 4) (n := 4) hts inX6 (hts _ (List.mem_of_getElem? (i := 89) (by decide +kernel)))
      exact ⟨a, b, fun q hq => by cases hq; exact k⟩
    | 7 =>
      obtain ⟨a, b, k⟩ := u_known (C := RX7) (T := TX7) (N := 2) (n := 2) hts inX7 (hts _ (List.mem_of_getElem? (i := 82) (by decide +kernel)))
      exact ⟨a, b, fun q hq => by cases hq; exact k⟩
    | 8 =>
      obtain ⟨a, b, k⟩ := u_known (C := RX8) (T := TX8) (N := 8) (n := 8) hts inX8 (hts _ (List.mem_of_getElem? (i := 54) (by decide +kernel)))
      exact ⟨a, b, fun q hq => by cases hq; exact k⟩
    | 9 =>
      obtain ⟨a, b, k⟩ := u_known (C := RX9) (T := TX9) (N := 19) (n := 19) hts inX9 (hts _ (List.mem_of_getElem? (i := 591) (by decide +kernel)))
      exact ⟨a, b, fun q hq => by cases hq; exact k⟩
    | c + 10 => exact ⟨0, fun _ => 0, fun q hq => by cases hq⟩
  exact ⟨(fun c => Classical.choose (h c), fun c => Classical.choose (Classical.choose_spec (h c))), fun c q hq => Classical.choose_spec (Classical.choose_spec (h c)) q hq⟩
theorem ar_one {A : Array Value} {s : State} {t : FieldType} (h : (Cond.arrayClass t).before A s = true) (hr : ∀ c : ClassId, s.vm.findClass ("[" ++ t.toString) = some c → va_RA s c t) : ∃ c : ClassId, ArrOfT s c t ∧ va_RA s c t := by
  obtain ⟨c, k, comp, h1, h2, h3⟩ := Cond.arrayClass_spec h
  exact ⟨c, fun n z => ⟨fun k h => (by cases h), k, h2, comp, h3⟩, hr c h1⟩
theorem ao_one {A : Array Value} {s : State} {C : String} (h : (Cond.arrayOver (.object C)).before A s = true) : ∃ c : ClassId, ArrOfT s c (.object C) ∧ va_RA s c (.object C) := by
  obtain ⟨comp, c, k, h1, h2, h3, h4, h5⟩ := Cond.arrayOver_spec h
  exact ⟨c, fun n z => ⟨fun k h => (by cases h), k, h3, comp, h4⟩, k, comp, h3, h4, h1, h5⟩
set_option maxRecDepth 100000 in
theorem ar_start {A : Array Value} {s : State} (hts : ∀ w ∈ lw_tbl, w.before A s = true) : ∃ E : Nat → ClassId, ∀ (k : Nat) (q : ClassId × FieldType), (gT E)[k]? = some q → ArrOfT s q.1 q.2 ∧ va_RA s q.1 q.2 := by
  obtain ⟨c0, h0⟩ := ar_one (t := .int) (hts _ (List.mem_of_getElem? (i := 80) (by decide +kernel))) (fun c h => h)
  obtain ⟨c1, h1⟩ := ar_one (t := .boolean) (hts _ (List.mem_of_getElem? (i := 225) (by decide +kernel))) (fun c h => h)
  obtain ⟨c2, h2⟩ := ar_one (t := .char) (hts _ (List.mem_of_getElem? (i := 197) (by decide +kernel))) (fun c h => h)
  obtain ⟨c3, h3⟩ := ao_one (C := "PracticeSheets$State") (hts _ (List.mem_of_getElem? (i := 168) (by decide +kernel)))
  obtain ⟨c4, h4⟩ := ao_one (C := "PracticeSheets$Word") (hts _ (List.mem_of_getElem? (i := 88) (by decide +kernel)))
  refine ⟨fun i => match i with | 0 => c0 | 1 => c1 | 2 => c2 | 3 => c3 | _ => c4, fun k q hq => ?_⟩
  match k with
  | 0 => cases hq; exact h0
  | 1 => cases hq; exact h1
  | 2 => cases hq; exact h2
  | 3 => cases hq; exact h3
  | 4 => cases hq; exact h4
  | k + 5 => cases hq
set_option maxRecDepth 100000 in
theorem ao_start {A : Array Value} {s : State} (hts : ∀ w ∈ lw_tbl, w.before A s = true) : va_AO RX4 s ∧ va_AO RX6 s :=
  ⟨va_AO.of (C := RX4) (hts _ (List.mem_of_getElem? (i := 168) (by decide +kernel))), va_AO.of (C := RX6) (hts _ (List.mem_of_getElem? (i := 88) (by decide +kernel)))⟩
def adS (b k : Nat) : Nat := if k < 3 then b + 1 + 66 * k else b + 201 + 66 * (k - 3)
def adW (b k : Nat) : Nat := if k = 140 then b + 467 else adS b (k / 20) + 6 + 3 * (k % 20)
/-- the cells' places, of a class made at b (its last cell: b + 476) and a reference made at b + 477 -/
def adL (b : Nat) (f k : Nat) : Nat := match f with
  | 0 => b
  | 1 => adS b k
  | 2 => adS b k + 1
  | 3 => adS b k + 2
  | 4 => adS b k + 3
  | 5 => adS b k + 4
  | 6 => adS b k + 5
  | 7 => adW b k
  | 8 => adW b k + 1
  | 9 => adW b k + 2
  | 10 => b + 199
  | 11 => b + 200
  | 12 => b + 465
  | 13 => b + 466
  | 14 => b + 470
  | 15 => b + 471
  | 16 => b + 472
  | 17 => b + 473
  | 18 => b + 474
  | 19 => b + 475
  | 20 => b + 476
  | 21 => b + 477
  | _ => b + 478 + k
theorem lay_L (b : Nat) : LAY (adL b) := by
  refine ⟨fun k hk => ⟨rfl, rfl⟩, fun j hj => ⟨rfl, rfl, rfl, rfl, rfl, fun i hi => ?_⟩, ⟨rfl, fun i hi => ?_⟩, ⟨rfl, ?_⟩, ⟨rfl, rfl, rfl, rfl⟩, rfl, fun i hi => ?_, ⟨rfl, rfl, rfl, rfl⟩, fun k hk => ?_⟩
  · show adW b (20 * j + i) = adS b j + 6 + 3 * i
    unfold adW
    rw [if_neg (by omega), show (20 * j + i) / 20 = j by omega, show (20 * j + i) % 20 = i by omega]
  · show adS b (3 + i) = b + 199 + 2 + 66 * i
    unfold adS
    rw [if_neg (by omega)]; omega
  · show adW b 140 = b + 465 + 2
    unfold adW
    rw [if_pos rfl]
  · show adS b i = b + 1 + 66 * i
    unfold adS
    rw [if_pos hi]
  · show b + 478 + k = b + 477 + 1 + k
    omega
/-- the class's cells -/
def LX : List (Nat × Nat) := (List.range 21).flatMap (fun f => (List.range (gN f)).map (fun k => (f, k)))
/-- the reference's cells -/
def LM : List (Nat × Nat) := (21, 0) :: (List.range 13).map (fun k => (22, k))
theorem LX_mem {f k : Nat} : (f, k) ∈ LX ↔ f < 21 ∧ k < gN f := by
  unfold LX
  rw [List.mem_flatMap]
  constructor
  · rintro ⟨f', h1, h2⟩
    obtain ⟨k', h3, h4⟩ := List.mem_map.mp h2
    cases h4
    exact ⟨List.mem_range.mp h1, List.mem_range.mp h3⟩
  · rintro ⟨h1, h2⟩
    exact ⟨f, List.mem_range.mpr h1, List.mem_map.mpr ⟨k, List.mem_range.mpr h2, rfl⟩⟩
theorem LM_mem {f k : Nat} : (f, k) ∈ LM ↔ (f = 21 ∧ k = 0) ∨ (f = 22 ∧ k < 13) := by
  unfold LM
  rw [List.mem_cons, List.mem_map]
  constructor
  · rintro (h | ⟨k', h1, h2⟩)
    · cases h; exact Or.inl ⟨rfl, rfl⟩
    · cases h2; exact Or.inr ⟨rfl, List.mem_range.mp h1⟩
  · rintro (⟨rfl, rfl⟩ | ⟨rfl, h⟩)
    · exact Or.inl rfl
    · exact Or.inr ⟨k, List.mem_range.mpr h, rfl⟩
theorem LX_gLx : gLx LX := fun f k hf hk => LX_mem.mpr ⟨hf, hk⟩
theorem LM_gLm : gLm LM := by
  intro f k hf hk
  refine LM_mem.mpr ?_
  by_cases h1 : f = 21
  · subst h1; exact Or.inl ⟨rfl, by have : k < 1 := hk; omega⟩
  · by_cases h2 : f = 22
    · subst h2; exact Or.inr ⟨rfl, hk⟩
    · exfalso
      have : gN f = 0 := by
        unfold gN
        split <;> first | omega | rfl
      omega
set_option maxRecDepth 100000 in
theorem LX_nodup : LX.Nodup := by decide +kernel
theorem LM_nodup : LM.Nodup := by decide +kernel
/-- the world at the start -/
def M0x : gW := fun f _ => if f = 1 then zS else if f = 11 then z11 else z0
def M0m : gW := fun f k => if f = 22 ∧ k = 0 then zR else z0
/-- the cells' numbers in order are 0 to 476 -/
def ofs (q : Nat × Nat) : Nat := adL 0 q.1 q.2
theorem adL_ofs (b f k : Nat) : adL b f k = b + ofs (f, k) := by
  show adL b f k = b + adL 0 f k
  have hS : ∀ k, adS b k = b + adS 0 k := fun k => by unfold adS; split <;> omega
  have hW : ∀ k, adW b k = b + adW 0 k := fun k => by
    have := hS (k / 20)
    unfold adW
    split <;> omega
  have h1 := hS k
  have h2 := hW k
  unfold adL
  split <;> omega
set_option maxRecDepth 100000 in
theorem LX_ofs : (LX.map ofs).Nodup ∧ ∀ x ∈ LX.map ofs, x < 477 := by decide +kernel
set_option maxRecDepth 100000 in
theorem LM_ofs : (LM.map ofs).Nodup ∧ ∀ x ∈ LM.map ofs, 477 ≤ x ∧ x < 491 := by decide +kernel
theorem gF_of {E : Nat → ClassId} {L : List (Nat × Nat)} {A : Nat → Prop} {b : Nat} (hn : L.Nodup) (ho : (L.map ofs).Nodup) (hA : ∀ q ∈ L, A (adL b q.1 q.2)) : gF E (adL b) L A := by
  refine ⟨fun M => ⟨fun i j x y hx hy e => ?_, fun k q hq => ?_⟩, hn⟩
  · unfold gL at hx hy
    rw [List.getElem?_map] at hx hy
    cases h1 : L[i]? with
    | none => rw [h1] at hx; cases hx
    | some q1 =>
      cases h2 : L[j]? with
      | none => rw [h2] at hy; cases hy
      | some q2 =>
        rw [h1] at hx; rw [h2] at hy
        cases hx; cases hy
        have e' : adL b q1.1 q1.2 = adL b q2.1 q2.2 := e
        rw [adL_ofs, adL_ofs] at e'
        have e2 : ofs q1 = ofs q2 := by have := e'; show ofs (q1.1, q1.2) = ofs (q2.1, q2.2); omega
        have g1 : (L.map ofs)[i]? = some (ofs q1) := by rw [List.getElem?_map, h1]; rfl
        have g2 : (L.map ofs)[j]? = some (ofs q1) := by rw [List.getElem?_map, h2, e2]; rfl
        exact (List.getElem?_inj (List.getElem?_eq_some_iff.mp g1).1 ho).mp (g1.trans g2.symm)
  · unfold gL at hq
    rw [List.getElem?_map] at hq
    cases h1 : L[k]? with
    | none => rw [h1] at hq; cases hq
    | some q1 => rw [h1] at hq; cases hq; exact hA q1 (List.mem_of_getElem? h1)
/-- the cells that the constructors made are the world at the start -/
theorem P_of {D : va_G} {E : Nat → ClassId} {ad : Nat → Nat → Nat} {L : List (Nat × Nat)} {M : gW} {H : Heap} (h : ∀ f k, (f, k) ∈ L → HC D H (ad f k) (gC E ad f k (M f k))) : va_P D vwCl (gL E ad L M) H := by
  intro i q hq
  unfold gL at hq
  rw [List.getElem?_map] at hq
  cases h1 : L[i]? with
  | none => rw [h1] at hq; cases hq
  | some q1 => rw [h1] at hq; cases hq; exact h q1.1 q1.2 (List.mem_of_getElem? h1)
theorem SB.w {D : va_G} {E : Nat → ClassId} {ad : Nat → Nat → Nat} {H : Heap} {j : Nat} (h : SB D E ad j H) : HC D H (ad 1 j) (gC E ad 1 j zS) ∧ HC D H (ad 2 j) (gC E ad 2 j z0) ∧ HC D H (ad 3 j) (gC E ad 3 j z0) ∧ HC D H (ad 4 j) (gC E ad 4 j z0) ∧ HC D H (ad 5 j) (gC E ad 5 j z0) ∧ HC D H (ad 6 j) (gC E ad 6 j z0) ∧ ∀ i, i < 20 → WB D E ad (20 * j + i) H := ⟨h.2.1, h.2.2.1.2.1, h.2.2.1.2.2.1, h.2.2.1.2.2.2, h.2.2.2.2.1, h.2.2.2.2.2.1, h.2.2.2.2.2.2⟩
theorem XB_P {D : va_G} {E : Nat → ClassId} {ad : Nat → Nat → Nat} {H : Heap} (h : XB D E ad H) : va_P D vwCl (gL E ad LX M0x) H := by
  refine P_of (fun f k hm => ?_)
  obtain ⟨hf, hk⟩ := LX_mem.mp hm
  obtain ⟨h0, ⟨s0, s1, s2⟩, ⟨h10, h11, hs⟩, ⟨h12, h13, h140⟩, ⟨h14, h15, h16, h17, h18⟩, h19, h20⟩ := h
  have hS : ∀ j, j < 7 → SB D E ad j H := fun j hj => by
    obtain rfl | rfl | rfl | hj' := (by omega : j = 0 ∨ j = 1 ∨ j = 2 ∨ 3 ≤ j)
    · exact s0
    · exact s1
    · exact s2
    · have := hs (j - 3) (by omega)
      rwa [show 3 + (j - 3) = j by omega] at this
  have hW : ∀ k, k < 141 → WB D E ad k H := fun k hk => by
    by_cases h140' : k = 140
    · rw [h140']; exact h140
    · have := (hS (k / 20) (by omega)).w.2.2.2.2.2.2 (k % 20) (by omega)
      rwa [show 20 * (k / 20) + k % 20 = k by omega] at this
  match f, hf with
  | 0, _ => obtain rfl : k = 0 := (by have : k < 1 := hk; omega); exact h0
  | 1, _ => exact (hS k hk).w.1
  | 2, _ => exact (hS k hk).w.2.1
  | 3, _ => exact (hS k hk).w.2.2.1
  | 4, _ => exact (hS k hk).w.2.2.2.1
  | 5, _ => exact (hS k hk).w.2.2.2.2.1
  | 6, _ => exact (hS k hk).w.2.2.2.2.2.1
  | 7, _ => exact (hW k hk).2.1
  | 8, _ => exact (hW k hk).2.2.1
  | 9, _ => exact (hW k hk).2.2.2
  | 10, _ => obtain rfl : k = 0 := (by have : k < 1 := hk; omega); exact h10
  | 11, _ => obtain rfl : k = 0 := (by have : k < 1 := hk; omega); exact h11
  | 12, _ => obtain rfl : k = 0 := (by have : k < 1 := hk; omega); exact h12
  | 13, _ => obtain rfl : k = 0 := (by have : k < 1 := hk; omega); exact h13
  | 14, _ => obtain rfl : k = 0 := (by have : k < 1 := hk; omega); exact h14
  | 15, _ => obtain rfl : k = 0 := (by have : k < 1 := hk; omega); exact h15
  | 16, _ => obtain rfl : k = 0 := (by have : k < 1 := hk; omega); exact h16
  | 17, _ => obtain rfl : k = 0 := (by have : k < 1 := hk; omega); exact h17
  | 18, _ => obtain rfl : k = 0 := (by have : k < 1 := hk; omega); exact h18
  | 19, _ => obtain rfl : k = 0 := (by have : k < 1 := hk; omega); exact h19
  | 20, _ => obtain rfl : k = 0 := (by have : k < 1 := hk; omega); exact h20
  | n + 21, h => exact absurd h (by omega)
theorem YB_P {D : va_G} {E : Nat → ClassId} {ad : Nat → Nat → Nat} {H : Heap} (h : YB D E ad H) : va_P D vwCl (gL E ad LM M0m) H := by
  refine P_of (fun f k hm => ?_)
  rcases LM_mem.mp hm with ⟨rfl, rfl⟩ | ⟨rfl, hk⟩
  · exact h.1
  · by_cases h0 : k = 0
    · subst h0; exact h.2.1
    · have e : M0m 22 k = z0 := by unfold M0m; rw [if_neg (fun z => h0 z.2)]
      rw [e]; exact h.2.2 k (by omega) hk
/-- the row at the start -/
theorem inv0 : INV M0x M0m := by
  have r0 : ∀ i, zR i = if i = 0 then 5 else 0 := fun i => rfl
  have hOP : OkP zR := TS.okP fun p hp => ⟨0, 0, ⟨by rw [r0, if_neg (by omega)]; rfl, by rw [r0, if_neg (by omega)]; rfl⟩, Nat.le_refl _, by omega⟩
  have e5 : sN zR = 0 := by unfold sN; rw [r0, if_neg (by omega)]; rfl
  have hOL : OkL zR := ⟨⟨by rw [e5, r0, if_neg (by omega)]; rfl, by omega⟩, fun w hw => absurd hw (by omega)⟩
  have hO : Ok zR := Ok.mk' hOP hOL (u := 5) (v := 0) rfl (by omega) rfl (by omega)
  refine ⟨zR, false, zR, 0, fun _ => zR, fun _ => 0, 0, hO, ⟨⟨fun p hp => ?_, ⟨?_, fun w hw => absurd hw (by omega)⟩, rfl, rfl, rfl, rfl, rfl⟩, ⟨rfl, fun z => by cases z⟩, ⟨rfl, by omega, fun i => 3 + i, fun i hi => ⟨rfl, by show 3 ≤ 3 + i; omega, by show 3 + i < 7; omega⟩, fun i j _ _ e => by have e' : 3 + i = 3 + j := e; omega, fun i hi => absurd hi (by omega)⟩, ⟨rfl, by omega, fun i hi => absurd hi (by omega)⟩⟩, fun i hi => rfl, ⟨rfl, fun z => by cases z⟩, ⟨rfl, by omega, fun j hj => absurd hj (by omega)⟩, rfl, by omega, fun i hi => absurd hi (by omega)⟩
  · rw [r0, if_neg (by omega), r0, if_neg (by omega)]; exact ⟨rfl, rfl⟩
  · rfl
