/-! ===== LAYER 2: the reference: a written word ===== -/
/-- behind a letter and its mark -/
def wFw (K : Int32 → gW → Prop) (X0 : gW → Int32 → Int32 → Prop) (n3 : Nat) (x1_5 : Int32) (M20 : gW) : Prop := (wX9_isThere M20 ((x1_5 + (1 : Int32)) + (M20 22 11 (M20 21 0 18).toNatClampNeg)) (45 : Int32) (fun r24 M23 => ((r24 = 0 → ((vp_in (M23 21 0 18) 15) ∧ (∀ M27 : gW, M27 = gU M23 22 12 (upd (M23 22 12) (M23 21 0 18).toNatClampNeg (0 : Int32)) → ((vp_in (M27 21 0 18) 15) ∧ (∀ y30 : Int32, y30 = (((x1_5 + (1 : Int32)) + (M20 22 11 (M20 21 0 18).toNatClampNeg)) + (M27 22 12 (M27 21 0 18).toNatClampNeg)) → (∀ M32 : gW, M32 = gU M27 21 0 (upd (M27 21 0) 18 ((M27 21 0 18) + (1 : Int32))) → (wX9_isLetter M32 y30 (fun r35 M34 => ((r35 = 0 → (wX9_faultOfWriting_L9 K X0 n3 M34 y30 (0 : Int32))) ∧ (¬ (r35 = 0) → (wX9_faultOfWriting_L9 K X0 n3 M34 y30 (1 : Int32)))))))))))) ∧ (¬ (r24 = 0) → (((15 : Int32) ≤ ((M23 21 0 18) + (1 : Int32)) → ((vp_in (M23 21 0 18) 15) ∧ (∀ M39 : gW, M39 = gU M23 22 12 (upd (M23 22 12) (M23 21 0 18).toNatClampNeg (0 : Int32)) → ((vp_in (M39 21 0 18) 15) ∧ (∀ y42 : Int32, y42 = (((x1_5 + (1 : Int32)) + (M20 22 11 (M20 21 0 18).toNatClampNeg)) + (M39 22 12 (M39 21 0 18).toNatClampNeg)) → (∀ M44 : gW, M44 = gU M39 21 0 (upd (M39 21 0) 18 ((M39 21 0 18) + (1 : Int32))) → (wX9_isLetter M44 y42 (fun r47 M46 => ((r47 = 0 → (wX9_faultOfWriting_L9 K X0 n3 M46 y42 (0 : Int32))) ∧ (¬ (r47 = 0) → (wX9_faultOfWriting_L9 K X0 n3 M46 y42 (1 : Int32)))))))))))) ∧ (¬ ((15 : Int32) ≤ ((M23 21 0 18) + (1 : Int32))) → ((vp_in (M23 21 0 18) 15) ∧ (∀ M50 : gW, M50 = gU M23 22 12 (upd (M23 22 12) (M23 21 0 18).toNatClampNeg (1 : Int32)) → ((vp_in (M50 21 0 18) 15) ∧ (∀ y53 : Int32, y53 = (((x1_5 + (1 : Int32)) + (M20 22 11 (M20 21 0 18).toNatClampNeg)) + (M50 22 12 (M50 21 0 18).toNatClampNeg)) → (∀ M55 : gW, M55 = gU M50 21 0 (upd (M50 21 0) 18 ((M50 21 0 18) + (1 : Int32))) → (wX9_faultOfWriting_L9 K X0 n3 M55 y53 (1 : Int32)))))))))))))
abbrev kW : Nat → Prop := fun k => 10 ≤ k ∧ k ≤ 12
abbrev jW : Nat → Prop := fun j => j = 18
abbrev bD : Nat × Bool × Bool := (0, false, false)
def BsR (M : gW) (bs : List (Nat × Bool × Bool)) : Prop := M 21 0 18 = nI bs.length ∧ bs.length ≤ 15 ∧ ∀ j, j < bs.length → M 22 10 j = nI (bs.getD j bD).1 ∧ M 22 11 j = b2 (bs.getD j bD).2.1 ∧ M 22 12 j = b2 (bs.getD j bD).2.2
theorem gD_app {α : Type} {l l2 : List α} {d : α} {i : Nat} (hi : i < l.length) : (l ++ l2).getD i d = l.getD i d := by
  rw [List.getD_eq_getElem?_getD, List.getD_eq_getElem?_getD, List.getElem?_append_left hi]
theorem gD_last {α : Type} {l : List α} {p d : α} : (l ++ [p]).getD l.length d = p := by
  rw [List.getD_eq_getElem?_getD, List.getElem?_append_right (Nat.le_refl _), Nat.sub_self]; rfl
theorem drop_gD {α : Type} {l : List α} {d : α} {i : Nat} (hi : i < l.length) : l.drop i = l.getD i d :: l.drop (i + 1) := by
  rw [List.drop_eq_getElem_cons hi, List.getD_eq_getElem?_getD, List.getElem?_eq_getElem hi]; rfl
theorem fl_stop {t : Nat → Int32} {d i l : Nat} {b : Int32} (h : mayB (t i) b l = false) : fltT t (d + 1) i b l = some i := by
  show (if mayB (t i) b l = true then _ else _) = _; rw [if_neg (by rw [h]; decide)]
theorem fl_go {t : Nat → Int32} {d i l : Nat} {b : Int32} (h : mayB (t i) b l = true) : fltT t (d + 1) i b l = fltT t d (i + 1) (t i) (if isL (t i) = true then l + 1 else l) := by
  show (if mayB (t i) b l = true then _ else _) = _; rw [if_pos h]
theorem may_33 {b : Int32} {l : Nat} : mayB 33 b l = isL b := by unfold mayB; rw [if_pos rfl]
theorem may_45 {b : Int32} {l : Nat} : mayB 45 b l = (decide (¬ b = 45) && decide (l < 15)) := by unfold mayB; rw [if_neg (by decide), if_pos rfl]
theorem may_x {x b : Int32} {l : Nat} (h3 : ¬ x = 33) (h4 : ¬ x = 45) : mayB x b l = (isL x && decide (l < 15)) := by unfold mayB; rw [if_neg h3, if_neg h4]
section YW
variable {M M' : gW} {S T Sn : gR} {sn : Bool} {h n : Nat} {Hs : Nat → gR} {t : Nat → Int32} {ks js : Nat → Prop}
theorem y_fw {K : Int32 → gW → Prop} {X0 : gW → Int32 → Int32 → Prop} {f i len i2 : Nat} {mk : Bool} (hT : TY M t n) (hl : M 21 0 18 = nI len) (h15 : len < 15) (hm : M 22 11 len = b2 mk) (hi : i < 60) (e2 : i2 = i + 1 + (if mk = true then 1 else 0))
    (hA : ∀ M', (¬ (i2 < n ∧ t i2 = 45) ∨ 15 ≤ len + 1) → FY (fun k => k = 12) jW M M' → M' 22 12 = upd (M 22 12) len (b2 false) → M' 21 0 18 = nI (len + 1) → (∀ x, x = b2 (decide (i2 < n) && isL (t i2)) → wX9_faultOfWriting_L9 K X0 f M' (nI i2) x))
    (hB : ∀ M', (i2 < n ∧ t i2 = 45) → len + 1 < 15 → FY (fun k => k = 12) jW M M' → M' 22 12 = upd (M 22 12) len (b2 true) → M' 21 0 18 = nI (len + 1) → wX9_faultOfWriting_L9 K X0 f M' (nI (i2 + 1)) 1) : wFw K X0 f (nI i) M := by
  have hn := hT.2.1
  have hcl : (nI len).toNatClampNeg = len := nI_clamp (by omega)
  have hin : vp_in (nI len) 15 := pk_in len 15 h15
  have ei : (nI i + (1 : Int32)) + b2 mk = nI i2 := by
    rw [nI_add1, e2]
    cases mk with
    | false => exact Int32.add_zero _
    | true => exact nI_add1 _
  have hi2 : i2 < 62 := by rw [e2]; split <;> omega
  unfold wFw
  rw [hl, hcl, hm, ei]
  refine y_isThere hT (by omega) ?_
  rw [hl, hcl]
  -- no mark on the join
  have nA : (¬ (i2 < n ∧ t i2 = 45) ∨ 15 ≤ len + 1) → ∀ M27 : gW, M27 = gU M 22 12 (upd (M 22 12) len (0 : Int32)) → ((vp_in (M27 21 0 18) 15) ∧ (∀ y30 : Int32, y30 = (nI i2 + (M27 22 12 (M27 21 0 18).toNatClampNeg)) → (∀ M32 : gW, M32 = gU M27 21 0 (upd (M27 21 0) 18 ((M27 21 0 18) + (1 : Int32))) → (wX9_isLetter M32 y30 (fun r35 M34 => ((r35 = 0 → (wX9_faultOfWriting_L9 K X0 f M34 y30 (0 : Int32))) ∧ (¬ (r35 = 0) → (wX9_faultOfWriting_L9 K X0 f M34 y30 (1 : Int32))))))))) := by
    intro hc M27 e27
    have q : M27 21 0 18 = nI len := by rw [e27, gU_o (by decide)]; exact hl
    have q12 : M27 22 12 = upd (M 22 12) len (b2 false) := by rw [e27, gU_same]; rfl
    rw [q, hcl, q12, upd_at, if_pos rfl]
    refine ⟨hin, fun y ey M32 e32 => ?_⟩
    have ey' : y = nI i2 := ey.trans (Int32.add_zero _)
    subst ey'
    have hF : FY (fun k => k = 12) jW M M32 := ((FY.rf (ks := fun k => k = 12) (js := jW)).st e27 rfl).sf e32 rfl
    have v : M32 21 0 18 = nI (len + 1) := by rw [e32, gU_same, upd_at, if_pos rfl, nI_add1]
    have v12 : M32 22 12 = upd (M 22 12) len (b2 false) := by rw [e32, gU_o (by decide)]; exact q12
    refine y_isLetter (hT.fr hF (by omega) (by omega)) (by omega) ⟨fun z => hA M32 hc hF v12 v 0 z.symm, fun z => hA M32 hc hF v12 v 1 ?_⟩
    rcases b2_01 (decide (i2 < n) && isL (t i2)) with y | y
    · exact absurd y z
    · exact y.symm
  by_cases hd : i2 < n ∧ t i2 = 45
  · rw [decide_eq_true hd]
    refine br_f (by decide) ?_
    rw [nI_add1]
    refine pk_le 15 (len + 1) (fun z => ⟨hin, nA (Or.inr z)⟩) (fun z => ⟨hin, fun M50 e50 => ?_⟩)
    have q : M50 21 0 18 = nI len := by rw [e50, gU_o (by decide)]; exact hl
    have q12 : M50 22 12 = upd (M 22 12) len (b2 true) := by rw [e50, gU_same]; rfl
    rw [q, hcl, q12, upd_at, if_pos rfl]
    refine ⟨hin, fun y ey M55 e55 => ?_⟩
    have ey' : y = nI (i2 + 1) := ey.trans (nI_add1 i2)
    subst ey'
    have hF : FY (fun k => k = 12) jW M M55 := ((FY.rf (ks := fun k => k = 12) (js := jW)).st e50 rfl).sf e55 rfl
    exact hB M55 hd z hF (by rw [e55, gU_o (by decide)]; exact q12) (by rw [e55, gU_same, upd_at, if_pos rfl, nI_add1])
  · rw [decide_eq_false hd]
    exact br_t rfl ⟨hin, nA (Or.inl hd)⟩
theorem BsR.app {bs : List (Nat × Bool × Bool)} {a : Nat} {m j : Bool} (h : BsR M bs) (h15 : bs.length < 15) (e : M' 21 0 18 = nI (bs.length + 1)) (e10 : M' 22 10 = upd (M 22 10) bs.length (nI a)) (e11 : M' 22 11 = upd (M 22 11) bs.length (b2 m)) (e12 : M' 22 12 = upd (M 22 12) bs.length (b2 j)) : BsR M' (bs ++ [(a, m, j)]) := by
  refine ⟨by rw [e, List.length_append]; rfl, by rw [List.length_append]; simp; omega, fun k hk => ?_⟩
  rw [List.length_append] at hk
  simp only [List.length_singleton] at hk
  rw [e10, e11, e12, upd_at, upd_at, upd_at]
  by_cases hkl : k = bs.length
  · rw [if_pos hkl, if_pos hkl, if_pos hkl, hkl, gD_last]; exact ⟨rfl, rfl, rfl⟩
  · rw [if_neg hkl, if_neg hkl, if_neg hkl, gD_app (by omega)]; exact h.2.2 k (by omega)
def lastOk (bs : List (Nat × Bool × Bool)) : Prop := ∀ k, k + 1 = bs.length → (bs.getD k bD).2.2 = false
theorem y_faultT {K : Int32 → gW → Prop} (hT : TY M t n) (hbad : ∀ M' x, fltT t n 0 45 0 = some x → FY kW jW M M' → K (nI x) M') (hgood : ∀ M', fltT t n 0 45 0 = none → BsR M' (bsF t n (n + 1) 0) → lastOk (bsF t n (n + 1) 0) → FY kW jW M M' → K (-5) M') : wX9_faultOfWriting M K := by
  have hn := hT.2.1
  intro M1 e1
  have hF1 : FY kW jW M M1 := (FY.rf (ks := kW) (js := jW)).sf e1 rfl
  have key : ∀ f d i b pre M2, i + d = n → d ≤ f → (b = 45 ∨ (0 < d ∧ isL (t i) = true)) → BsR M2 pre → FY kW jW M M2 → (∀ M' x, fltT t d i b pre.length = some x → FY kW jW M M' → K (nI x) M') → (∀ M', fltT t d i b pre.length = none → BsR M' (pre ++ bsF t n (f + 1) i) → lastOk (pre ++ bsF t n (f + 1) i) → FY kW jW M M' → K (-5) M') → wX9_faultOfWriting_L9 K (fun M95 x1_96 x2_97 => ((x1_96 = (M95 21 0 14) → (K (-5 : Int32) M95)) ∧ (¬ (x1_96 = (M95 21 0 14)) → (K x1_96 M95)))) (f + 2) M2 (nI i) 1 := by
    intro f
    induction f with
    | zero =>
      intro d i b pre M2 hi hd hb hB hF hbad hgood
      obtain rfl : d = 0 := by omega
      have hT2 := hT.fr hF (by omega) (by omega)
      have hb45 : b = 45 := hb.elim id (fun z => absurd z.1 (by omega))
      refine br_f (by decide) (y_isLetter hT2 (by omega) ?_)
      rw [decide_eq_false (by omega), Bool.false_and]
      refine br_t rfl (hbad M2 i ?_ hF)
      show (if b = 45 then some i else none) = some i
      rw [if_pos hb45]
    | succ f ih =>
      intro d i b pre M2 hi hd hb hB hF hbad hgood
      have hT2 := hT.fr hF (by omega) (by omega)
      refine br_f (by decide) (y_isLetter hT2 (by omega) ?_)
      cases d with
      | zero =>
        have hb45 : b = 45 := hb.elim id (fun z => absurd z.1 (by omega))
        rw [decide_eq_false (by omega), Bool.false_and]
        refine br_t rfl (hbad M2 i ?_ hF)
        show (if b = 45 then some i else none) = some i
        rw [if_pos hb45]
      | succ d =>
        rw [decide_eq_true (show i < n by omega), Bool.true_and]
        cases hx : isL (t i) with
        | false =>
          have hb45 : b = 45 := hb.elim id (fun z => by rw [hx] at z; exact absurd z.2 (by decide))
          refine br_t rfl (hbad M2 i (fl_stop ?_) hF)
          by_cases h3 : t i = 33
          · rw [h3, may_33, hb45]; decide
          · by_cases h4 : t i = 45
            · rw [h4, may_45, hb45]; rfl
            · rw [may_x h3 h4, hx]; rfl
        | true =>
          have hmx : mayB (t i) b pre.length = decide (pre.length < 15) := by rw [may_x (isL_ne hx).1 (isL_ne hx).2, hx]; rfl
          refine br_f (by decide) ?_
          rw [hB.1]
          have h15 := hB.2.1
          refine pk_eq pre.length 15 (fun z => hbad M2 i (fl_stop (by rw [hmx, decide_eq_false (by omega)])) hF) (fun z => ?_)
          have hlt15 : pre.length < 15 := by omega
          have hgo : fltT t (d + 1) i b pre.length = fltT t d (i + 1) (t i) (pre.length + 1) := by
            rw [fl_go (by rw [hmx, decide_eq_true hlt15]), if_pos hx]
          rw [hgo] at hbad hgood
          have hlt := lt_of hx
          have hcl : (nI pre.length).toNatClampNeg = pre.length := nI_clamp (by omega)
          have hin : vp_in (nI pre.length) 15 := pk_in pre.length 15 hlt15
          refine ⟨pk_in i 60 (by omega), hin, fun M14 e14 => ?_⟩
          rw [hcl, nI_clamp (by omega), hT2.2.2 i (by omega), hlt.2] at e14
          have hF14 : FY kW jW M2 M14 := (FY.rf (ks := kW) (js := jW)).st e14 (by omega)
          have hT14 := hT2.fr hF14 (by omega) (by omega)
          have q14 : M14 21 0 18 = nI pre.length := by rw [e14, gU_o (by decide)]; exact hB.1
          -- the mark
          have mark : ∀ M20 : gW, M20 = gU M14 22 11 (upd (M14 22 11) pre.length (b2 (bM t n i))) → wFw K (fun M95 x1_96 x2_97 => ((x1_96 = (M95 21 0 14) → (K (-5 : Int32) M95)) ∧ (¬ (x1_96 = (M95 21 0 14)) → (K x1_96 M95)))) (f + 2) (nI i) M20 := by
            intro M20 e20
            have hF20 : FY kW jW M M20 := (hF.tr hF14).st e20 (by omega)
            have q20 : M20 21 0 18 = nI pre.length := by rw [e20, gU_o (by decide)]; exact q14
            have w10 : M20 22 10 = upd (M2 22 10) pre.length (nI (lt t i)) := by rw [e20, gU_ne (by omega), e14, gU_same]
            have w11 : M20 22 11 = upd (M2 22 11) pre.length (b2 (bM t n i)) := by rw [e20, gU_same, e14, gU_ne (by omega)]
            have w12 : M20 22 12 = M2 22 12 := by rw [e20, gU_ne (by omega), e14, gU_ne (by omega)]
            -- what is left behind the mark
            have hst : ∃ d2 b2', bI t n i + d2 = n ∧ d2 ≤ d ∧ ¬ b2' = 45 ∧ fltT t d (i + 1) (t i) (pre.length + 1) = fltT t d2 (bI t n i) b2' (pre.length + 1) ∧ (0 < d2 → t (bI t n i) = 33 → isL b2' = false) := by
              by_cases hm : i + 1 < n ∧ t (i + 1) = 33
              · have eI : bI t n i = i + 2 := by unfold bI bM; rw [if_pos (decide_eq_true hm)]
                rw [eI]
                cases d with
                | zero => exact absurd hm.1 (by omega)
                | succ d =>
                  refine ⟨d, 33, by omega, by omega, by decide, ?_, fun _ _ => isL_33⟩
                  rw [fl_go (by rw [hm.2, may_33]; exact hx), hm.2, if_neg (by rw [isL_33]; decide)]
              · have eI : bI t n i = i + 1 := by unfold bI bM; rw [if_neg (by rw [decide_eq_false hm]; decide)]
                rw [eI]
                exact ⟨d, t i, by omega, Nat.le_refl _, (isL_ne hx).2, rfl, fun hp z => absurd ⟨by omega, z⟩ hm⟩
            obtain ⟨d2, b2', hd2, hle, hb2, hfl, h33⟩ := hst
            rw [hfl] at hbad hgood
            have ebs : bsF t n (f + 1 + 1) i = (lt t i, bM t n i, bJ t n i) :: bsF t n (f + 1) (bE t n i) := by show (if n ≤ i then [] else _) = _; rw [if_neg (by omega)]
            have eIi : bI t n i = i + 1 + (if bM t n i = true then 1 else 0) := by unfold bI; split <;> omega
            refine y_fw (mk := bM t n i) (i2 := bI t n i) (len := pre.length) (hT.fr hF20 (by omega) (by omega)) q20 hlt15 (by rw [w11, upd_at, if_pos rfl]) (by omega) eIi (fun M' hc hF' v12 v18 x ex => ?_) (fun M' hc hl hF' v12 v18 => ?_)
            · have hFa : FY kW jW M M' := hF20.tr (hF'.mono (fun k z => by omega) (fun j z => z))
              have hB' : BsR M' (pre ++ [(lt t i, bM t n i, false)]) := hB.app hlt15 v18 (by rw [hF'.1 10 (by omega)]; exact w10) (by rw [hF'.1 11 (by omega)]; exact w11) (by rw [v12, w12])
              have hl' : (pre ++ [(lt t i, bM t n i, false)]).length = pre.length + 1 := by rw [List.length_append]; rfl
              by_cases hy : bI t n i < n ∧ isL (t (bI t n i)) = true
              · have hnd : ¬ (bI t n i < n ∧ t (bI t n i) = 45) := fun z => (isL_ne hy.2).2 z.2
                have eJ : bJ t n i = false := decide_eq_false hnd
                have eE : bE t n i = bI t n i := by unfold bE; rw [if_neg (by rw [eJ]; decide)]
                have ex1 : x = 1 := by rw [ex, decide_eq_true hy.1, hy.2]; rfl
                rw [ex1]
                rw [ebs, eJ, eE] at hgood
                refine ih d2 (bI t n i) b2' _ M' hd2 (by omega) (Or.inr ⟨by omega, hy.2⟩) hB' hFa (fun M' x => by rw [hl']; exact hbad M' x) (fun M' => ?_)
                rw [hl', List.append_assoc]; exact hgood M'
              · have ex0 : x = 0 := by
                  rw [ex]
                  by_cases y1 : bI t n i < n
                  · cases y2 : isL (t (bI t n i)) with
                    | true => exact absurd ⟨y1, y2⟩ hy
                    | false => rw [Bool.and_false]; rfl
                  · rw [decide_eq_false y1]; rfl
                rw [ex0]
                refine br_t rfl ?_
                dsimp only
                rw [(hT.fr hFa (by omega) (by omega)).1]
                refine pk_eq (bI t n i) n (fun y => ?_) (fun y => ?_)
                · obtain rfl : d2 = 0 := by omega
                  have hnd : ¬ (bI t n i < n ∧ t (bI t n i) = 45) := fun z => absurd z.1 (by omega)
                  have eJ : bJ t n i = false := decide_eq_false hnd
                  have eE : bE t n i = bI t n i := by unfold bE; rw [if_neg (by rw [eJ]; decide)]
                  have en : bsF t n (f + 1) (bI t n i) = [] := by show (if n ≤ _ then [] else _) = _; rw [if_pos (by omega)]
                  rw [ebs, eJ, eE, en] at hgood
                  refine hgood M' ?_ hB' (fun k hk => ?_) hFa
                  · show (if b2' = 45 then _ else none) = none
                    rw [if_neg hb2]
                  · rw [hl'] at hk
                    obtain rfl : k = pre.length := by omega
                    rw [gD_last]
                · obtain ⟨d3, rfl⟩ : ∃ d3, d2 = d3 + 1 := ⟨d2 - 1, by omega⟩
                  refine hbad M' _ (fl_stop ?_) hFa
                  by_cases y3 : t (bI t n i) = 33
                  · rw [y3, may_33]; exact h33 (by omega) y3
                  · by_cases y4 : t (bI t n i) = 45
                    · rw [y4, may_45]
                      rcases hc with hc | hc
                      · exact absurd ⟨by omega, y4⟩ hc
                      · rw [decide_eq_false (show ¬ pre.length + 1 < 15 by omega), Bool.and_false]
                    · rw [may_x y3 y4]
                      cases y2 : isL (t (bI t n i)) with
                      | true => exact absurd ⟨by omega, y2⟩ hy
                      | false => rfl
            · have hFa : FY kW jW M M' := hF20.tr (hF'.mono (fun k z => by omega) (fun j z => z))
              have hB' : BsR M' (pre ++ [(lt t i, bM t n i, true)]) := hB.app hlt15 v18 (by rw [hF'.1 10 (by omega)]; exact w10) (by rw [hF'.1 11 (by omega)]; exact w11) (by rw [v12, w12])
              have hl' : (pre ++ [(lt t i, bM t n i, true)]).length = pre.length + 1 := by rw [List.length_append]; rfl
              have eJ : bJ t n i = true := decide_eq_true hc
              have eE : bE t n i = bI t n i + 1 := by unfold bE; rw [if_pos eJ]
              rw [ebs, eJ, eE] at hgood
              obtain ⟨d3, rfl⟩ : ∃ d3, d2 = d3 + 1 := ⟨d2 - 1, by omega⟩
              have hst2 : fltT t (d3 + 1) (bI t n i) b2' (pre.length + 1) = fltT t d3 (bI t n i + 1) 45 (pre.length + 1) := by
                rw [fl_go (by rw [hc.2, may_45, decide_eq_true hb2, decide_eq_true hl]; rfl), hc.2, if_neg (by rw [isL_45]; decide)]
              rw [hst2] at hbad hgood
              refine ih d3 (bI t n i + 1) 45 _ M' (by omega) (by omega) (Or.inl rfl) hB' hFa (fun M' x => by rw [hl']; exact hbad M' x) (fun M' => ?_)
              rw [hl', List.append_assoc]; exact hgood M'
          rw [nI_add1]
          refine y_isThere hT14 (by omega) ?_
          rw [q14, hcl, ← nI_add1]
          have em : bM t n i = decide (i + 1 < n ∧ t (i + 1) = 33) := rfl
          rw [em] at mark
          by_cases hm : i + 1 < n ∧ t (i + 1) = 33
          · rw [decide_eq_true hm] at mark ⊢
            refine br_f (by decide) ⟨hin, fun M20 e20 => ⟨?_, mark M20 e20⟩⟩
            rw [e20, gU_o (by decide), q14]; exact hin
          · rw [decide_eq_false hm] at mark ⊢
            refine br_t rfl ⟨hin, fun M20 e20 => ⟨?_, mark M20 e20⟩⟩
            rw [e20, gU_o (by decide), q14]; exact hin
  exact ⟨_, key n n 0 45 [] M1 (by omega) (Nat.le_refl _) (Or.inl rfl) ⟨by rw [e1, gU_same, upd_at, if_pos rfl]; rfl, by simp, fun j hj => absurd hj (by simp)⟩ hF1 hbad hgood⟩
/-! what the letters do, in the reference's order -/
def blkS (p : Nat) (s : Bool) (S : gR) : gR := if s = true then aS (aT S p) p else aT S p
def effR : List (Nat × Bool × Bool) → gR → gR
  | [], S => S
  | b :: bs, S => match bs with
    | [] => blkS b.1 b.2.1 S
    | b' :: _ => effR bs (blkS (jn b.1 b'.1) b.2.2 (blkS b.1 b.2.1 S))
theorem upd_comm {S : gR} {i j : Nat} {x y : Int32} (h : i ≠ j) : upd (upd S i x) j y = upd (upd S j y) i x := by
  funext k; rw [upd_at, upd_at, upd_at, upd_at]
  by_cases h1 : k = j
  · rw [if_pos h1, if_neg (by omega), if_pos h1]
  · rw [if_neg h1, if_neg h1]
theorem aT_aT {S : gR} {p q : Nat} (h : p ≠ q) : aT (aT S p) q = aT (aT S q) p := by
  unfold aT
  rw [upd_at, if_neg (by omega), upd_at, if_neg (by omega), upd_comm (by omega)]
theorem aS_aT {S : gR} {p q : Nat} (hp : p < 702) (hq : q < 702) : aT (aS S p) q = aS (aT S q) p := by
  unfold aT aS
  rw [upd_at, if_neg (by omega), upd_at, if_neg (by omega), upd_comm (by omega)]
theorem letS_jb {S : gR} {a l : Nat} {jm : Bool} (ha : a < 26) (hl : l < 26) : aT (blkS (jn a l) jm S) l = letS S (some a) jm l := by
  have hj := jn_lt ha hl
  have hne : jn a l ≠ l := by unfold jn; omega
  unfold blkS letS
  dsimp only
  cases jm with
  | false => rw [if_neg (by decide), if_neg (by decide)]; exact aT_aT hne
  | true => rw [if_pos rfl, if_pos rfl, aS_aT hj (by omega), aT_aT hne]
theorem letS_none {S : gR} {l : Nat} {jm : Bool} : letS S none jm l = aT S l := by unfold letS; rfl
theorem eff_cons {S : gR} {last : Option Nat} {jm : Bool} {b : Nat × Bool × Bool} {bs : List (Nat × Bool × Bool)} : eff (b :: bs) last jm S = eff bs (some b.1) b.2.2 (if b.2.1 = true then aS (letS S last jm b.1) b.1 else letS S last jm b.1) := by simp only [eff]
theorem eff_jb {S : gR} {a : Nat} {jm : Bool} {b : Nat × Bool × Bool} {bs : List (Nat × Bool × Bool)} (ha : a < 26) (hl : b.1 < 26) : eff (b :: bs) (some a) jm S = eff (b :: bs) none false (blkS (jn a b.1) jm S) := by
  rw [eff_cons, eff_cons, letS_none, letS_jb ha hl]
theorem effR_eq : ∀ (bs : List (Nat × Bool × Bool)) (S : gR), (∀ b ∈ bs, b.1 < 26) → effR bs S = eff bs none false S
  | [], S, _ => rfl
  | [b], S, hb => rfl
  | b :: b' :: bs, S, hb => by
    have h1 := hb b List.mem_cons_self
    have h2 := hb b' (List.mem_cons_of_mem _ List.mem_cons_self)
    show effR (b' :: bs) (blkS (jn b.1 b'.1) b.2.2 (blkS b.1 b.2.1 S)) = eff (b' :: bs) (some b.1) b.2.2 (blkS b.1 b.2.1 S)
    rw [eff_jb h1 h2, effR_eq (b' :: bs) _ (fun x hx => hb x (List.mem_cons_of_mem _ hx))]
theorem y_write_bad {K : Int32 → gW → Prop} {f : Nat} (hY : YR M S sn Sn h Hs t n) (hf : fltT t n 0 45 0 = some f) (hk : ∀ M', YR M' S sn Sn h Hs t n → K (-100 - nI f) M') : wX9_write M K := by
  refine y_faultT hY.2.2.2 (fun M' x e hF => ?_) (fun M' e => by rw [hf] at e; cases e)
  rw [hf] at e
  cases e
  have hfn : f < 2 ^ 31 := by
    have key : ∀ d i b l, fltT t d i b l = some f → f ≤ i + d := by
      intro d
      induction d with
      | zero => intro i b l e; unfold fltT at e; split at e <;> cases e; omega
      | succ d ih =>
        intro i b l e; unfold fltT at e
        split at e
        · have := ih _ _ _ e; omega
        · cases e; omega
    have := key n 0 45 0 hf
    have := hY.2.2.2.2.1
    omega
  exact br_f (nI_ne_neg hfn (by decide)) (hk M' (hY.fr hF (by omega) (by omega) (by omega) (by omega) (by omega) (by omega) (by omega)))
theorem y_write {K : Int32 → gW → Prop} (hY : YR M S sn Sn h Hs t n) (hf : fltT t n 0 45 0 = none) (hb : ∀ b ∈ bsF t n (n + 1) 0, b.1 < 26) (hk : ∀ M', YR M' (wrtS S (bsF t n (n + 1) 0)) sn Sn (pushN h) (pushH h Hs S) t n → K (nI (slp (bsF t n (n + 1) 0))) M') : wX9_write M K := by
  refine y_faultT hY.2.2.2 (fun M' x e => by rw [hf] at e; cases e) (fun M0 _ hB0 hlast hF0 => ?_)
  have hY0 := hY.fr hF0 (by omega) (by omega) (by omega) (by omega) (by omega) (by omega) (by omega)
  generalize bsF t n (n + 1) 0 = bs at *
  refine br_t rfl (y_remember hY0 (fun M1 hY1 h11 hF1 => ?_))
  have hB1 : BsR M1 bs := by unfold BsR at hB0 ⊢; rw [hF1.1 10 (by omega), hF1.1 11 (by omega), hF1.1 12 (by omega), hF1.2 18 (fun z => z)]; exact hB0
  have h15 := hB1.2.1
  have hbl : ∀ i, i < bs.length → (bs.getD i bD).1 < 26 := fun i hi => by
    rw [List.getD_eq_getElem?_getD, List.getElem?_eq_getElem hi]; exact hb _ (List.getElem_mem hi)
  refine ⟨_, p_loop0 (fun f i => ∀ M2 S2 s, RW M2 S2 → FY k0 no M1 M2 → effR (bs.drop i) S2 = effR bs S → s + slp (bs.drop i) = slp bs → wX9_write_L24 (fun M24 x2_25 x3_26 => ((vp_in (2 : Int32) 1730) ∧ ((vp_in (2 : Int32) 1730) ∧ (∀ M29 : gW, M29 = gU M24 22 0 (upd (M24 22 0) (2 : Int32).toNatClampNeg ((M24 22 0 (2 : Int32).toNatClampNeg) + (1 : Int32))) → ((vp_in (3 : Int32) 1730) ∧ ((vp_in (3 : Int32) 1730) ∧ (∀ M33 : gW, M33 = gU M29 22 0 (upd (M29 22 0) (3 : Int32).toNatClampNeg ((M29 22 0 (3 : Int32).toNatClampNeg) + x2_25)) → (wX9_acted M33 x2_25 (fun r36 M35 => (K r36 M35)))))))))) f M2 (nI s) (nI i)) bs.length ?_ ?_ M1 S 0 hY1.1 FY.rf rfl (by rw [Nat.zero_add]; rfl)⟩
  · intro f M2 S2 s hR2 hF2 hS hs
    refine br_t (by rw [hF2.2 18 (fun z => z), hB1.1]; exact nI_le (Nat.le_refl _) (by omega)) ⟨pk_in 2 1730 (by omega), pk_in 2 1730 (by omega), fun M3 e3 => ⟨pk_in 3 1730 (by omega), pk_in 3 1730 (by omega), fun M4 e4 => ?_⟩⟩
    rw [List.drop_length] at hS hs
    have hS2 : S2 = eff bs none false S := by rw [← effR_eq bs S hb]; exact hS
    have hs2 : s = slp bs := hs
    rw [show (2 : Int32).toNatClampNeg = 2 from rfl] at e3
    rw [show (3 : Int32).toNatClampNeg = 3 from rfl] at e4
    have r3 := hR2.up e3
    have r4 := r3.up e4
    have eo : ∀ i, i < 6 ∨ 1410 ≤ i → S2 i = S i := fun i hi => by rw [hS2]; exact eff_other hi bs none false S hb (fun a z => by cases z)
    have hF4 : FY k0 no M1 M4 := (hF2.st e3 rfl).st e4 rfl
    refine y_acted (T := wrtS S bs) (S := S) (fun i hi => ?_) (hY1.2.fr hF4 (by omega) (by omega) (by omega) (fun z => z) (fun z => z) (fun z => z)) (h11.fr hF4 (by omega)) (fun M5 hY5 hF5 => by rw [hs2]; exact hk M5 hY5)
    rw [r4 i hi, r3 3 (by omega), hR2 2 (by omega), eo 2 (by omega)]
    have e5 : upd S2 2 (S 2 + 1) 3 = S 3 := by rw [upd_at, if_neg (by decide)]; exact eo 3 (by omega)
    rw [e5, hs2, hS2]; rfl
  · intro f i hi ih M2 S2 s hR2 hF2 hS hs
    have hv := hB1.2.2 i hi
    have hin : vp_in (nI i) 15 := pk_in i 15 (by omega)
    have hcl : (nI i).toNatClampNeg = i := nI_clamp (by omega)
    have hbi := hbl i hi
    refine br_f (by rw [hF2.2 18 (fun z => z), hB1.1]; exact nI_ge hi (by omega)) ⟨hin, hin, ?_⟩
    rw [hcl, hF2.1 10 (by omega), hF2.1 11 (by omega), hv.1, hv.2.1]
    rw [drop_gD (d := bD) hi] at hS hs
    have hlo := hlast i
    refine y_tries hR2 (by omega) (fun M3 hR3 hF3 => ⟨hin, ?_⟩)
    have hF3' := hF2.tr hF3
    rw [hF3'.2 18 (fun z => z), hB1.1, hF3'.1 11 (by omega), hv.2.1, nI_add1]
    have e10 : M3 22 10 = M1 22 10 := hF3'.1 10 (by omega)
    have es1 : nI s + b2 (bs.getD i bD).2.1 = nI (s + (if (bs.getD i bD).2.1 = true then 1 else 0)) := by
      cases (bs.getD i bD).2.1 with
      | true => exact nI_add1 s
      | false => exact Int32.add_zero _
    rw [es1]
    by_cases hl : bs.length ≤ i + 1
    · refine br_t (nI_le hl (by omega)) ?_
      have hd : bs.drop (i + 1) = [] := List.drop_eq_nil_of_le hl
      have hj := hlo (by omega)
      rw [hd] at hS hs
      refine ih M3 _ _ hR3 hF3' ?_ ?_
      · rw [hd]; exact hS
      · rw [hd]
        simp only [slp] at hs ⊢
        rw [hj, if_neg (show ¬ false = true by decide)] at hs
        omega
    · have hi1 : i + 1 < bs.length := by omega
      have hv1 := hB1.2.2 (i + 1) hi1
      have hin1 : vp_in (nI (i + 1)) 15 := pk_in (i + 1) 15 (by omega)
      have hcl1 : (nI (i + 1)).toNatClampNeg = i + 1 := nI_clamp (by omega)
      refine br_f (nI_ge (by omega) (by omega)) ⟨hin, hin1, ?_⟩
      rw [hcl1, e10, hv.1, hv1.1]
      refine y_joinOf ⟨hin, ?_⟩
      rw [hF3'.1 12 (by omega), hv.2.2]
      refine y_tries hR3 (jn_lt hbi (hbl (i + 1) hi1)) (fun M4 hR4 hF4 => ⟨hin, fun y ey => ?_⟩)
      have hF4' := hF3'.tr hF4
      rw [hF4'.1 12 (by omega), hv.2.2] at ey
      have es2 : y = nI (s + (if (bs.getD i bD).2.1 = true then 1 else 0) + (if (bs.getD i bD).2.2 = true then 1 else 0)) := by
        rw [ey]
        cases (bs.getD i bD).2.2 with
        | true => exact nI_add1 _
        | false => exact Int32.add_zero _
      rw [es2]
      refine ih M4 _ _ hR4 hF4' ?_ ?_
      · rw [← hS, drop_gD (d := bD) hi1]; rfl
      · rw [← hs]; simp only [slp]; omega
end YW
