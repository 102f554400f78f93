/-! ===== LAYER 2: the reference: its row, needs, parts ===== -/
/-- the reference's frame: which arrays and which fields may change -/
def FY (ks js : Nat → Prop) (M M' : gW) : Prop := (∀ k, ¬ ks k → M' 22 k = M 22 k) ∧ ∀ j, ¬ js j → M' 21 0 j = M 21 0 j
def no : Nat → Prop := fun _ => False
theorem FY.rf {ks js : Nat → Prop} {M : gW} : FY ks js M M := ⟨fun _ _ => rfl, fun _ _ => rfl⟩
theorem FY.tr {ks js : Nat → Prop} {M1 M2 M3 : gW} (h1 : FY ks js M1 M2) (h2 : FY ks js M2 M3) : FY ks js M1 M3 := ⟨fun k h => (h2.1 k h).trans (h1.1 k h), fun j h => (h2.2 j h).trans (h1.2 j h)⟩
theorem FY.mono {ks js ks' js' : Nat → Prop} {M M' : gW} (h : FY ks js M M') (h1 : ∀ k, ks k → ks' k) (h2 : ∀ j, js j → js' j) : FY ks' js' M M' := ⟨fun k z => h.1 k (fun y => z (h1 k y)), fun j z => h.2 j (fun y => z (h2 j y))⟩
theorem FY.st {ks js : Nat → Prop} {M M1 M2 : gW} {k : Nat} {r : Nat → Int32} (h : FY ks js M M1) (e : M2 = gU M1 22 k r) (hk : ks k) : FY ks js M M2 :=
  ⟨fun k' h' => by rw [e, gU_ne (fun z => h' (by rw [z.2]; exact hk))]; exact h.1 k' h', fun j h' => by rw [e, gU_o (by decide)]; exact h.2 j h'⟩
theorem FY.sf {ks js : Nat → Prop} {M M1 M2 : gW} {j : Nat} {x : Int32} (h : FY ks js M M1) (e : M2 = gU M1 21 0 (upd (M1 21 0) j x)) (hj : js j) : FY ks js M M2 :=
  ⟨fun k' h' => by rw [e, gU_o (by decide)]; exact h.1 k' h', fun j' h' => by rw [e, gU_same, upd_at, if_neg (fun z => h' (by rw [z]; exact hj))]; exact h.2 j' h'⟩
/-- the row is S -/
def RW (M : gW) (S : gR) : Prop := ∀ i, i < 1730 → M 22 0 i = S i
/-- the parts that were found -/
def PtR (M : gW) (l : List Nat) : Prop := M 21 0 8 = nI l.length ∧ ∀ i, i < l.length → M 22 5 i = nI (l.getD i 0)
section YR1
variable {M M' : gW} {S : gR} {K : Int32 → gW → Prop} {ks js : Nat → Prop} {l : List Nat} {p w : Nat}
theorem RW.fr (h : RW M S) (hF : FY ks js M M') (h0 : ¬ ks 0) : RW M' S := fun i hi => by rw [hF.1 0 h0]; exact h i hi
theorem PtR.fr (h : PtR M l) (hF : FY ks js M M') (h5 : ¬ ks 5) (h8 : ¬ js 8) : PtR M' l := by unfold PtR at h ⊢; rw [hF.1 5 h5, hF.2 8 h8]; exact h
theorem cmp_lt {x y : Int64} : lg_cmp x y < 0 ↔ x.toInt < y.toInt := by
  have h := lg_cmp_ge x y
  rw [Int64.le_iff_toInt_le] at h
  constructor
  · intro z
    rcases Int.lt_or_le x.toInt y.toInt with q | q
    · exact q
    · exact absurd z (Int32.not_lt.mpr (h.mpr q))
  · intro z
    exact Int32.not_le.mp (fun q => by have := h.mp q; omega)
theorem cmp_gt {x y : Int64} : 0 < lg_cmp x y ↔ y.toInt < x.toInt := by
  unfold lg_cmp
  simp only [gt_iff_lt, Int64.lt_iff_toInt_lt, ← Int64.toInt_inj]
  by_cases h : y.toInt < x.toInt
  · rw [if_pos h]; simp [h]
  · rw [if_neg h]
    by_cases h2 : x.toInt = y.toInt
    · rw [if_pos h2]; simp [h]
    · rw [if_neg h2]
      constructor
      · intro z; exact absurd z (by decide)
      · intro z; exact absurd z h
theorem y_in {x lo hi : Int32} {lo' hi' : Int64} (e1 : lo' = lo.toInt64) (e2 : hi' = hi.toInt64) (h1 : ¬ x < lo → ¬ hi < x → K 1 M) (h0 : (x < lo ∨ hi < x) → K 0 M) : wX9_in M x.toInt64 lo' hi' K := by
  subst e1 e2
  refine ⟨fun z => ?_, fun z => ⟨fun y => ?_, fun y => ?_⟩⟩
  · rw [cmp_lt, Int32.toInt_toInt64, Int32.toInt_toInt64] at z
    exact h0 (Or.inl (Int32.lt_iff_toInt_lt.mpr z))
  · rw [cmp_gt, Int32.toInt_toInt64, Int32.toInt_toInt64] at y
    exact h0 (Or.inr (Int32.lt_iff_toInt_lt.mpr y))
  · rw [cmp_lt, Int32.toInt_toInt64, Int32.toInt_toInt64] at z
    rw [cmp_gt, Int32.toInt_toInt64, Int32.toInt_toInt64] at y
    exact h1 (fun q => z (Int32.lt_iff_toInt_lt.mp q)) (fun q => y (Int32.lt_iff_toInt_lt.mp q))
theorem y_needOf (hR : RW M S) (hO : OkP S) (hp : p < 702) (h : K (nI (nd S p)) M) : wX9_needOf M (nI p) K := by
  obtain ⟨h1, h2, h3, h4⟩ := hO p hp
  have e1 : (708 : Int32) + nI p = nI (708 + p) := nI_add 708 p
  have e2 : (6 : Int32) + nI p = nI (6 + p) := nI_add 6 p
  unfold wX9_needOf
  rw [e1, e2, nI_clamp (by omega), nI_clamp (by omega), hR _ (by omega), hR _ (by omega), h1, h2]
  have e3 : nI (sT S p) + (2 : Int32) = nI (sT S p + 2) := nI_add _ 2
  have e4 : (100 : Int32) * nI (sS S p) = nI (100 * sS S p) := pk_mul 100 _
  rw [e3, e4]
  refine ⟨pk_in (708 + p) 1730 (by omega), pk_in (6 + p) 1730 (by omega), nI_ne0 (by omega) (by omega), ?_⟩
  rw [pk_div (by omega) (by omega) (by omega)]; exact h
theorem y_isUntried (hR : RW M S) (hp : p < 702) (h1 : S (6 + p) = 0 → K 1 M) (h0 : ¬ S (6 + p) = 0 → K 0 M) : wX9_isUntried M (nI p) K := by
  have e2 : (6 : Int32) + nI p = nI (6 + p) := nI_add 6 p
  unfold wX9_isUntried
  rw [e2, nI_clamp (by omega), hR _ (by omega)]
  exact ⟨pk_in (6 + p) 1730 (by omega), h1, h0⟩
theorem RW.up {i : Nat} {x : Int32} {M1 : gW} (h : RW M S) (e : M1 = gU M 22 0 (upd (M 22 0) i x)) : RW M1 (upd S i x) := fun j hj => by
  rw [e, gU_same, upd_at, upd_at]
  split
  · rfl
  · exact h j hj
theorem y_tries {K : gW → Prop} {s : Bool} (hR : RW M S) (hp : p < 702) (h : ∀ M', RW M' (if s = true then aS (aT S p) p else aT S p) → FY (fun k => k = 0) no M M' → K M') : wX9_tries M (nI p) (b2 s) K := by
  have e1 : (708 : Int32) + nI p = nI (708 + p) := nI_add 708 p
  have e2 : (6 : Int32) + nI p = nI (6 + p) := nI_add 6 p
  have c1 : (nI (6 + p)).toNatClampNeg = 6 + p := nI_clamp (by omega)
  have c2 : (nI (708 + p)).toNatClampNeg = 708 + p := nI_clamp (by omega)
  have i1 : vp_in (nI (6 + p)) 1730 := pk_in (6 + p) 1730 (by omega)
  have i2 : vp_in (nI (708 + p)) 1730 := pk_in (708 + p) 1730 (by omega)
  unfold wX9_tries
  rw [e1, e2, c1, c2, hR (6 + p) (by omega)]
  -- behind the tries
  have tail : ∀ M5, RW M5 (aT S p) → FY (fun k => k = 0) no M M5 → (b2 s = (1 : Int32) → (vp_in (nI (708 + p)) 1730 ∧ (((9999 : Int32) ≤ M5 22 0 (708 + p) → (vp_in (nI (708 + p)) 1730 ∧ (∀ M15 : gW, M15 = gU M5 22 0 (upd (M5 22 0) (708 + p) (M5 22 0 (708 + p) + (0 : Int32))) → K M15))) ∧ (¬ ((9999 : Int32) ≤ M5 22 0 (708 + p)) → (vp_in (nI (708 + p)) 1730 ∧ (∀ M18 : gW, M18 = gU M5 22 0 (upd (M5 22 0) (708 + p) (M5 22 0 (708 + p) + (1 : Int32))) → K M18)))))) ∧ (¬ (b2 s = (1 : Int32)) → (vp_in (nI (708 + p)) 1730 ∧ (∀ M10 : gW, M10 = gU M5 22 0 (upd (M5 22 0) (708 + p) (M5 22 0 (708 + p) + (0 : Int32))) → K M10))) := by
    intro M5 hR5 hF5
    have v := hR5 (708 + p) (by omega)
    rw [v]
    cases s with
    | true =>
      refine br_t rfl ⟨i2, fun z => ⟨i2, fun M15 e15 => ?_⟩, fun z => ⟨i2, fun M18 e18 => ?_⟩⟩
      · refine h M15 ?_ (hF5.st e15 rfl)
        have := hR5.up e15
        rw [if_pos rfl]; unfold aS inc; rw [if_pos z]; rwa [Int32.add_zero] at this
      · refine h M18 ?_ (hF5.st e18 rfl)
        have := hR5.up e18
        rw [if_pos rfl]; unfold aS inc; rw [if_neg z]; exact this
    | false =>
      refine br_f (by decide) ⟨i2, fun M10 e10 => ?_⟩
      refine h M10 ?_ (hF5.st e10 rfl)
      have := hR5.up e10
      rw [if_neg (by decide)]; rwa [Int32.add_zero, upd_self] at this
  refine ⟨i1, i1, fun z => ⟨i1, fun M5 e5 => ⟨i2, tail M5 ?_ (FY.rf.st e5 rfl)⟩⟩, fun z => ⟨i1, fun M5 e5 => ⟨i2, tail M5 ?_ (FY.rf.st e5 rfl)⟩⟩⟩
  · have := hR.up e5
    unfold aT inc; rw [if_pos z]; rwa [Int32.add_zero] at this
  · have := hR.up e5
    unfold aT inc; rw [if_neg z]; exact this
theorem y_joinOf {a b : Nat} (h : K (nI (jn a b)) M) : wX9_joinOf M (nI a) (nI b) K := by
  unfold wX9_joinOf
  have e1 : (26 : Int32) * nI a = nI (26 * a) := pk_mul 26 a
  have e2 : (26 : Int32) + nI (26 * a) = nI (26 + 26 * a) := nI_add 26 _
  rw [e1, e2, nI_add]; exact h
theorem lN_m1 {N : Nat} (hN : N ≤ 20) : ((nI N).toInt64 - (1 : Int64)).toInt = (N : Int) - 1 := by
  have : ∀ i, i < 21 → ((nI i).toInt64 - (1 : Int64)).toInt = (i : Int) - 1 := by decide
  exact this N (by omega)
theorem y_isWord {a : Int32} (hR : RW M S) (hO : OkL S) (h1 : ∀ w, w < sN S → a = nI w → K 1 M) (h0 : (a < 0 ∨ nI (sN S) ≤ a) → K 0 M) : wX9_isWord M a K := by
  obtain ⟨⟨h5, hN⟩, -⟩ := hO
  unfold wX9_isWord
  rw [show (5 : Int32).toNatClampNeg = 5 from rfl, hR 5 (by omega), h5]
  refine ⟨pk_in 5 1730 (by omega), fun z => ⟨Or.inl rfl, ?_⟩, fun z => ⟨fun y => ⟨Or.inl rfl, ?_⟩, fun y => ⟨Or.inr rfl, ?_⟩⟩⟩
  · rw [cmp_lt, Int32.toInt_toInt64] at z
    exact h0 (Or.inl (Int32.lt_iff_toInt_lt.mpr z))
  · rw [cmp_gt, Int32.toInt_toInt64, lN_m1 hN] at y
    refine h0 (Or.inr (Int32.le_iff_toInt_le.mpr ?_))
    rw [nI_toInt (by omega)]; omega
  · rw [cmp_lt, Int32.toInt_toInt64] at z
    rw [cmp_gt, Int32.toInt_toInt64, lN_m1 hN] at y
    rcases pk_ix a (n := sN S) (by omega) with q | q | ⟨w, hw, rfl⟩
    · exact absurd (Int32.lt_iff_toInt_lt.mp q) z
    · rw [Int32.le_iff_toInt_le, nI_toInt (by omega)] at q; omega
    · exact h1 w hw rfl
theorem y_sizeOf (hR : RW M S) (hO : OkW S w) (hw : w < 20) (h : K (nI (sL S w)) M) : wX9_sizeOf M (nI w) K := by
  have e1 : (16 : Int32) * nI w = nI (16 * w) := pk_mul 16 w
  have e2 : (1410 : Int32) + nI (16 * w) = nI (1410 + 16 * w) := nI_add 1410 _
  unfold wX9_sizeOf
  rw [e1, e2, nI_clamp (by omega), hR _ (by omega), hO.1]
  exact ⟨pk_in (1410 + 16 * w) 1730 (by omega), h⟩
theorem y_letterAt {j : Nat} (hR : RW M S) (hO : OkW S w) (hw : w < 20) (hj : j < sL S w) (h : K (nI (sC S w j)) M) : wX9_letterAt M (nI w) (nI j) K := by
  have h15 := hO.2.2.1
  have e1 : (16 : Int32) * nI w = nI (16 * w) := pk_mul 16 w
  have e2 : (1410 : Int32) + nI (16 * w) = nI (1410 + 16 * w) := nI_add 1410 _
  unfold wX9_letterAt
  rw [e1, e2, nI_add1, nI_add, nI_clamp (by omega), hR _ (by omega), (hO.2.2.2 j hj).1]
  exact ⟨pk_in (1410 + 16 * w + 1 + j) 1730 (by omega), h⟩
theorem ex_no {i x : Nat} {l : List Nat} (he : ¬ ∃ j, j < i ∧ l.getD j 0 = x) (z : ¬ l.getD i 0 = x) : ¬ ∃ j, j < i + 1 ∧ l.getD j 0 = x := by
  rintro ⟨j, h1, h2⟩
  rcases Nat.lt_or_ge j i with y | y
  · exact he ⟨j, y, h2⟩
  · obtain rfl : j = i := by omega
    exact z h2
theorem y_addsPart {K : gW → Prop} (hP : PtR M l) (hl : l.length < 29) (hlt : ∀ q ∈ l, q < 702) (hp : p < 702) (h : ∀ M', PtR M' (addP l p) → FY (fun k => k = 5) (fun j => j = 8) M M' → K M') : wX9_addsPart M (nI p) K := by
  refine ⟨_, p_loop0 (fun f i => wX9_addsPart_L4 (nI p) (fun M9 x2_10 x3_11 => ((x2_10 = 0 → ((vp_in (M9 21 0 8) 29) ∧ (∀ M14 : gW, M14 = gU M9 22 5 (upd (M9 22 5) (M9 21 0 8).toNatClampNeg (nI p)) → (∀ M16 : gW, M16 = gU M14 21 0 (upd (M14 21 0) 8 ((M14 21 0 8) + (1 : Int32))) → (K M16))))) ∧ (¬ (x2_10 = 0) → (K M9)))) f M (b2 (decide (∃ j, j < i ∧ l.getD j 0 = p))) (nI i)) l.length ?_ ?_⟩
  · intro f
    refine br_t (by rw [hP.1]; exact nI_le (Nat.le_refl _) (by omega)) ?_
    have em : decide (∃ j, j < l.length ∧ l.getD j 0 = p) = decide (p ∈ l) := decide_eq_decide.mpr mem_iff_getD.symm
    rw [em]
    by_cases hm : p ∈ l
    · rw [decide_eq_true hm]
      refine br_f (by decide) (h M ?_ FY.rf)
      unfold addP; rw [if_pos hm]; exact hP
    · rw [decide_eq_false hm]
      refine br_t rfl ?_
      rw [hP.1]
      refine ⟨pk_in l.length 29 hl, fun M1 e1 M2 e2 => ?_⟩
      rw [nI_clamp (by omega)] at e1
      refine h M2 ⟨?_, fun i hi => ?_⟩ (((FY.rf (ks := fun k => k = 5) (js := fun j => j = 8)).st e1 rfl).sf e2 rfl)
      · rw [e2, gU_same, upd_at, if_pos rfl, e1, gU_o (by decide), hP.1, nI_add1]
        unfold addP; rw [if_neg hm, List.length_append]; rfl
      · unfold addP at hi ⊢
        rw [if_neg hm] at hi ⊢
        rw [List.length_append] at hi
        simp only [List.length_singleton] at hi
        rw [e2, gU_o (by decide), e1, gU_same, upd_at]
        by_cases hil : i = l.length
        · subst hil; rw [if_pos rfl, getD_last]
        · rw [if_neg hil, getD_app (by omega)]; exact hP.2 i (by omega)
  · intro f i hi ih
    refine br_f (by rw [hP.1]; exact nI_ge hi (by omega)) ?_
    have hb := getD_lt hlt hi
    rw [nI_add1]
    by_cases he : ∃ j, j < i ∧ l.getD j 0 = p
    · obtain ⟨j, h1, h2⟩ := he
      rw [decide_eq_true ⟨j, h1, h2⟩]
      rw [decide_eq_true ⟨j, by omega, h2⟩] at ih
      exact br_f (by decide) ih
    · rw [decide_eq_false he]
      refine br_t rfl ⟨pk_in i 29 (by omega), ?_⟩
      rw [nI_clamp (by omega), hP.2 i hi]
      refine pk_eq (l.getD i 0) p (fun z => ?_) (fun z => ?_)
      · rw [decide_eq_true ⟨i, by omega, z⟩] at ih; exact ih
      · rw [decide_eq_false (ex_no he z)] at ih
        exact ih
theorem y_findsParts {K : gW → Prop} (hR : RW M S) (hO : OkW S w) (hw : w < 20) (h : ∀ M', PtR M' (sPt S w) → FY (fun k => k = 5) (fun j => j = 8) M M' → K M') : wX9_findsParts M (nI w) K := by
  intro M1 e1
  have h15 := hO.2.2.1
  have hc : ∀ i, i < sL S w → sC S w i < 26 := fun i hi => (hO.2.2.2 i hi).2
  have hF1 : FY (fun k => k = 5) (fun j => j = 8) M M1 := FY.rf.sf e1 rfl
  refine ⟨_, p_loop0 (fun f i => ∀ M2, PtR M2 (ptF (sC S w) i) → FY (fun k => k = 5) (fun j => j = 8) M M2 → wX9_findsParts_L7 (nI w) (fun M20 x2_21 => (K M20)) f M2 (nI i)) (sL S w) ?_ ?_ M1 ⟨by rw [e1, gU_same, upd_at, if_pos rfl]; rfl, fun i hi => absurd hi (by simp [ptF])⟩ hF1⟩
  · intro f M2 hP2 hF2
    exact y_sizeOf (hR.fr hF2 (by omega)) hO hw (br_t (nI_le (Nat.le_refl _) (by omega)) (h M2 hP2 hF2))
  · intro f i hi ih M2 hP2 hF2
    have hR2 := hR.fr hF2 (by omega)
    have hlen := ptF_len (sC S w) i
    have hlt := ptF_lt i (fun j hj => hc j (by omega))
    refine y_sizeOf hR2 hO hw (br_f (nI_ge hi (by omega)) (y_letterAt hR2 hO hw hi ?_))
    have hci := hc i hi
    refine y_addsPart hP2 (by omega) hlt (by omega) (fun M3 hP3 hF3 => ?_)
    have hF3' := hF2.tr hF3
    have hR3 := hR.fr hF3' (by omega)
    refine pk_le i 0 (fun z => ?_) (fun z => ?_)
    · obtain rfl : i = 0 := by omega
      rw [nI_add1]
      exact ih M3 (by simp only [ptF]; exact hP3) hF3'
    · have es : nI i - (1 : Int32) = nI (i - 1) := pk_sub (b := 1) (by omega)
      rw [es]
      refine y_letterAt hR3 hO hw (by omega) (y_letterAt hR3 hO hw hi (y_joinOf ?_))
      refine y_addsPart hP3 (by have := addP_len (ptF (sC S w) i) (sC S w i); omega) (addP_lt hlt (by omega)) (jn_lt (hc (i - 1) (by omega)) hci) (fun M4 hP4 hF4 => ?_)
      rw [nI_add1]
      refine ih M4 ?_ (hF3'.tr hF4)
      simp only [ptF, if_neg (show ¬ i = 0 by omega)]; exact hP4
theorem y_hasPart (hR : RW M S) (hO : OkW S w) (hw : w < 20) (hp : p < 702) (h1 : ∀ M', p ∈ sPt S w → FY (fun k => k = 5) (fun j => j = 8) M M' → K 1 M') (h0 : ∀ M', p ∉ sPt S w → FY (fun k => k = 5) (fun j => j = 8) M M' → K 0 M') : wX9_hasPart M (nI w) (nI p) K := by
  refine y_findsParts hR hO hw (fun M1 hP hF => ?_)
  have hl := sPt_len hO
  have hlt := sPt_lt hO
  generalize sPt S w = l at *
  refine ⟨_, p_loop0 (fun f i => wX9_hasPart_L10 (nI p) (fun M10 x3_11 x4_12 => ((x3_11 = 0 ∨ x3_11 = 1) ∧ (K x3_11 M10))) f M1 (b2 (decide (∃ j, j < i ∧ l.getD j 0 = p))) (nI i)) l.length ?_ ?_⟩
  · intro f
    refine br_t (by rw [hP.1]; exact nI_le (Nat.le_refl _) (by omega)) ⟨b2_01 _, ?_⟩
    have em : decide (∃ j, j < l.length ∧ l.getD j 0 = p) = decide (p ∈ l) := decide_eq_decide.mpr mem_iff_getD.symm
    rw [em]
    by_cases hm : p ∈ l
    · rw [decide_eq_true hm]; exact h1 M1 hm hF
    · rw [decide_eq_false hm]; exact h0 M1 hm hF
  · intro f i hi ih
    refine br_f (by rw [hP.1]; exact nI_ge hi (by omega)) ?_
    have hb := getD_lt hlt hi
    rw [nI_add1]
    by_cases he : ∃ j, j < i ∧ l.getD j 0 = p
    · obtain ⟨j, h1, h2⟩ := he
      rw [decide_eq_true ⟨j, h1, h2⟩]
      rw [decide_eq_true ⟨j, by omega, h2⟩] at ih
      exact br_f (by decide) ih
    · rw [decide_eq_false he]
      refine br_t rfl ⟨pk_in i 29 (by omega), ?_⟩
      rw [nI_clamp (by omega), hP.2 i hi]
      refine pk_eq (l.getD i 0) p (fun z => ?_) (fun z => ?_)
      · rw [decide_eq_true ⟨i, by omega, z⟩] at ih; exact ih
      · rw [decide_eq_false (ex_no he z)] at ih
        exact ih
theorem y_wordsWith (hR : RW M S) (hO : OkL S) (hp : p < 702) (h : ∀ M', FY (fun k => k = 5) (fun j => j = 8) M M' → K (nI (hmh S p)) M') : wX9_wordsWith M (nI p) K := by
  obtain ⟨⟨h5, hN⟩, hw⟩ := hO
  refine ⟨_, p_loop0 (fun f i => ∀ M2, FY (fun k => k = 5) (fun j => j = 8) M M2 → wX9_wordsWith_L4 (nI p) (fun M10 x2_11 x3_12 => (K x2_11 M10)) f M2 (nI (sumTo (fun w => if p ∈ sPt S w then 1 else 0) i)) (nI i)) (sN S) ?_ ?_ M FY.rf⟩
  · intro f M2 hF2
    refine ⟨pk_in 5 1730 (by omega), br_t ?_ (h M2 hF2)⟩
    rw [show (5 : Int32).toNatClampNeg = 5 from rfl, (hR.fr hF2 (by omega)) 5 (by omega), h5]; exact nI_le (Nat.le_refl _) (by omega)
  · intro f i hi ih M2 hF2
    have hR2 := hR.fr hF2 (by omega)
    refine ⟨pk_in 5 1730 (by omega), br_f ?_ ?_⟩
    · rw [show (5 : Int32).toNatClampNeg = 5 from rfl, hR2 5 (by omega), h5]; exact nI_ge hi (by omega)
    · simp only [sumTo] at ih
      refine y_hasPart hR2 (hw i hi) (by omega) hp (fun M3 z hF3 => br_f (by decide) ?_) (fun M3 z hF3 => br_t rfl ?_)
      · have := ih M3 (hF2.tr hF3); rw [if_pos z] at this; rw [nI_add1, nI_add1]; exact this
      · have := ih M3 (hF2.tr hF3); rw [if_neg z] at this; rw [Int32.add_zero, nI_add1]; exact this
end YR1
