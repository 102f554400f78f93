/-! ===== LAYER 2: the reference: its sheet ===== -/
/-- the plan of the reference holds the lines ws -/
def LnR (M : gW) (S : gR) (ws : List Nat) : Prop := M 21 0 11 = nI ws.length ∧ ws.length ≤ 10 ∧ (∀ i, i < ws.length → M 22 6 i = nI (ws.getD i 0) ∧ M 22 7 i = nI (gain S (ws.take i) (ws.getD i 0))) ∧ (∀ p, p < 702 → M 22 8 p = b2 (covB S ws p)) ∧ ∀ w ∈ ws, w < sN S
abbrev k5 : Nat → Prop := fun k => k = 5
abbrev j8 : Nat → Prop := fun j => j = 8
abbrev k0 : Nat → Prop := fun k => k = 0
abbrev kS : Nat → Prop := fun k => 5 ≤ k ∧ k ≤ 8
abbrev jS : Nat → Prop := fun j => j = 8 ∨ j = 11
section YR2
variable {M M' : gW} {S T : gR} {ks js : Nat → Prop} {l ws : List Nat} {p w u : Nat}
theorem LnR.fr (h : LnR M S ws) (hF : FY ks js M M') (h6 : ¬ ks 6) (h7 : ¬ ks 7) (h8 : ¬ ks 8) (h11 : ¬ js 11) : LnR M' S ws := by
  unfold LnR at h ⊢; rw [hF.1 6 h6, hF.1 7 h7, hF.1 8 h8, hF.2 11 h11]; exact h
theorem y_gainOf {K : Int32 → gW → Prop} (hR : RW M S) (hO : Ok S) (hcov : ∀ p, p < 702 → M 22 8 p = b2 (covB S ws p)) (hw : w < sN S) (h : ∀ M', PtR M' (sPt S w) → FY k5 j8 M M' → K (nI (gain S ws w)) M') : wX9_gainOf M (nI w) K := by
  obtain ⟨u, hu, hu9⟩ := hO.2.2.2.1
  have hN := hO.2.1.2
  have hw2 := hO.2.2.1 w hw
  have hl := sPt_len hw2
  have hlt := sPt_lt hw2
  refine y_findsParts hR hw2 (by omega) (fun M1 hP hF => ?_)
  have hR1 := hR.fr hF (by omega)
  have hcov1 : ∀ p, p < 702 → M1 22 8 p = b2 (covB S ws p) := fun p hp => by rw [hF.1 8 (by omega)]; exact hcov p hp
  refine ⟨_, p_loop0 (fun f i => wX9_gainOf_L9 (fun M18 x2_19 x3_20 => (K x2_19 M18)) f M1 (nI (sumTo (fun i => gnP S ws ((sPt S w).getD i 0)) i)) (nI i)) (sPt S w).length ?_ ?_⟩
  · intro f
    exact br_t (by rw [hP.1]; exact nI_le (Nat.le_refl _) (by omega)) (h M1 hP hF)
  · intro f i hi ih
    refine br_f (by rw [hP.1]; exact nI_ge hi (by omega)) ⟨pk_in i 29 (by omega), ?_⟩
    rw [nI_clamp (by omega), hP.2 i hi]
    have hp := getD_lt hlt hi
    simp only [sumTo] at ih
    generalize (sPt S w).getD i 0 = p at *
    refine y_isUntried hR1 hp (fun z => br_f (by decide) ⟨pk_in 0 1730 (by omega), ?_⟩) (fun z => br_t rfl ⟨pk_in p 702 hp, ?_⟩)
    · have e : gnP S ws p = u := by unfold gnP; rw [if_pos z, hu, nI_clamp (by omega)]
      rw [show (0 : Int32).toNatClampNeg = 0 from rfl, hR1 0 (by omega), hu, nI_add, nI_add1]
      rw [e] at ih; exact ih
    · rw [nI_clamp (by omega), hcov1 p hp]
      cases hcb : covB S ws p with
      | false =>
        refine br_f (by decide) (y_needOf hR1 hO.1 hp ?_)
        have e : gnP S ws p = nd S p := by unfold gnP; rw [if_neg z, hcb]; rfl
        rw [e] at ih
        rw [nI_add, nI_add1]; exact ih
      | true =>
        refine br_t rfl (y_needOf hR1 hO.1 hp ?_)
        have e : gnP S ws p = nd S p / 2 := by unfold gnP; rw [if_neg z, hcb]; rfl
        rw [e] at ih
        have := nd_le hO.1 hp
        have e2 : nI (nd S p) / (2 : Int32) = nI (nd S p / 2) := pk_div (d := 2) (by omega) (by omega) (by omega)
        rw [e2, nI_add, nI_add1]; exact ih
theorem y_coversNone {K : gW → Prop} (h : ∀ M', (∀ p, p < 702 → M' 22 8 p = 0) → FY (fun k => k = 8) no M M' → K M') : wX9_coversNone M K := by
  refine ⟨_, p_loop0 (fun f i => ∀ M2, (∀ p, p < i → M2 22 8 p = 0) → FY (fun k => k = 8) no M M2 → wX9_coversNone_L2 (fun M8 x1_9 => (K M8)) f M2 (nI i)) 702 ?_ ?_ M (fun p hp => absurd hp (by omega)) FY.rf⟩
  · intro f M2 hz hF
    exact br_t (nI_le (a := 702) (b := 702) (by omega) (by omega)) (h M2 hz hF)
  · intro f i hi ih M2 hz hF
    refine br_f (nI_ge (a := i) (b := 702) hi (by omega)) ⟨pk_in i 702 hi, fun M4 e4 => ?_⟩
    rw [nI_clamp (by omega)] at e4
    rw [nI_add1]
    refine ih M4 (fun p hp => ?_) (hF.st e4 rfl)
    rw [e4, gU_same, upd_at]
    split
    · rfl
    · exact hz p (by omega)
theorem y_isOnSheet {K : Int32 → gW → Prop} (hP : LnR M S ws) (hw : w < 20) (hN : sN S ≤ 20) (h : K (b2 (decide (w ∈ ws))) M) : wX9_isOnSheet M (nI w) K := by
  obtain ⟨h1, h2, h3, h4, h6⟩ := hP
  refine ⟨_, p_loop0 (fun f i => wX9_isOnSheet_L4 (nI w) (fun M9 x2_10 x3_11 => ((x2_10 = 0 ∨ x2_10 = 1) ∧ (K x2_10 M9))) f M (b2 (decide (∃ j, j < i ∧ ws.getD j 0 = w))) (nI i)) ws.length ?_ ?_⟩
  · intro f
    refine br_t (by rw [h1]; exact nI_le (Nat.le_refl _) (by omega)) ⟨b2_01 _, ?_⟩
    have em : decide (∃ j, j < ws.length ∧ ws.getD j 0 = w) = decide (w ∈ ws) := decide_eq_decide.mpr mem_iff_getD.symm
    rw [em]; exact h
  · intro f i hi ih
    refine br_f (by rw [h1]; exact nI_ge hi (by omega)) ?_
    have hb := getD_lt h6 hi
    rw [nI_add1]
    by_cases he : ∃ j, j < i ∧ ws.getD j 0 = w
    · obtain ⟨j, h1, h2⟩ := he
      rw [decide_eq_true ⟨j, h1, h2⟩]
      rw [decide_eq_true ⟨j, by omega, h2⟩] at ih
      exact br_f (by decide) ih
    · rw [decide_eq_false he]
      refine br_t rfl ⟨pk_in i 10 (by omega), ?_⟩
      rw [nI_clamp (by omega), (h3 i hi).1]
      refine pk_eq (ws.getD i 0) w (fun z => ?_) (fun z => ?_)
      · rw [decide_eq_true ⟨i, by omega, z⟩] at ih; exact ih
      · rw [decide_eq_false (ex_no he z)] at ih
        exact ih
theorem y_nextWord {K : Int32 → gW → Prop} (hR : RW M S) (hO : Ok S) (hP : LnR M S ws) (h : ∀ M', FY k5 j8 M M' → K (oI (bstF S ws (sN S)).1) M') : wX9_nextWord M K := by
  have hN := hO.2.1.2
  have h5 := hO.2.1.1
  refine ⟨_, p_loop0 (fun f i => ∀ M2, FY k5 j8 M M2 → wX9_nextWord_L7 (fun M29 x1_30 x2_31 x3_32 => (K x1_30 M29)) f M2 (oI (bstF S ws i).1) (nI (bstF S ws i).2) (nI i)) (sN S) ?_ ?_ M FY.rf⟩
  · intro f M2 hF2
    refine ⟨pk_in 5 1730 (by omega), br_t ?_ (h M2 hF2)⟩
    rw [show (5 : Int32).toNatClampNeg = 5 from rfl, (hR.fr hF2 (by omega)) 5 (by omega), h5]; exact nI_le (Nat.le_refl _) (by omega)
  · intro f i hi ih M2 hF2
    have hR2 := hR.fr hF2 (by omega)
    have hP2 := hP.fr hF2 (by omega) (by omega) (by omega) (by omega)
    refine ⟨pk_in 5 1730 (by omega), br_f ?_ ?_⟩
    · rw [show (5 : Int32).toNatClampNeg = 5 from rfl, hR2 5 (by omega), h5]; exact nI_ge hi (by omega)
    · have e1 : bstF S ws (i + 1) = bstep S ws i (bstF S ws i) := rfl
      have hb := bstF_ok S ws i
      refine y_isOnSheet hP2 (by omega) hN ?_
      rw [nI_add1]
      by_cases hm : i ∈ ws
      · rw [decide_eq_true hm]
        refine br_f (by decide) ?_
        rw [e1, bstep_in hm] at ih
        have q : (bstF S ws i).2 ≤ 2871 := bstF_le hO (by omega)
        refine br_f (nI_pos (by omega)) ?_
        cases hbe : (bstF S ws i).1 with
        | none => rw [hbe] at ih; exact br_t rfl (ih M2 hF2)
        | some b =>
          rw [hbe] at ih
          have hb2 := hb.2 b hbe
          refine br_f (nI_ne_neg (by omega) (by decide)) (br_f (fun z => ?_) (ih M2 hF2))
          have := (nI_eq (a := 0) (b := (bstF S ws i).2) (by omega) (by omega)).mp z
          omega
      · rw [decide_eq_false hm]
        refine br_t rfl ?_
        have ho := hO.2.2.1 i hi
        refine y_gainOf hR2 hO hP2.2.2.2.1 hi (fun M3 hPt3 hF3 => ?_)
        have hF3' := hF2.tr hF3
        have hR3 := hR.fr hF3' (by omega)
        have b1 : (bstF S ws i).2 ≤ 2871 := bstF_le hO (by omega)
        have b2 : gain S ws i ≤ 2871 := gain_le hO hi
        refine pk_lt (bstF S ws i).2 (gain S ws i) (fun z => ?_) (fun z => ?_)
        · rw [e1, bstep_new hm z] at ih; exact ih M3 hF3'
        · cases hbe : (bstF S ws i).1 with
          | none =>
            rw [e1, bstep_keep hm (by omega) (fun b hb' => by rw [hbe] at hb'; cases hb'), hbe] at ih
            exact br_t rfl (ih M3 hF3')
          | some b =>
            have hb2 := hb.2 b hbe
            have hob := hO.2.2.1 b (by omega)
            refine br_f (nI_ne_neg (by omega) (by decide)) (pk_eq (gain S ws i) (bstF S ws i).2 (fun z2 => ?_) (fun z2 => ?_))
            · refine y_sizeOf hR3 ho (by omega) (y_sizeOf hR3 hob (by omega) ?_)
              have := ho.2.2.1
              have := hob.2.2.1
              refine pk_le (sL S b) (sL S i) (fun z3 => ?_) (fun z3 => ?_)
              · rw [e1, bstep_keep hm (by omega) (fun b' hb' y => by rw [hbe] at hb'; cases hb'; omega), hbe] at ih; exact ih M3 hF3'
              · rw [e1, bstep_tie hm z2 hbe (by omega)] at ih; exact ih M3 hF3'
            · rw [e1, bstep_keep hm (by omega) (fun b hb y => z2 y.1), hbe] at ih; exact ih M3 hF3'
theorem y_makesSheet {K : gW → Prop} {a : Nat} (hR : RW M S) (hO : Ok S) (ha : a ≤ 10) (h : ∀ M', LnR M' S (shF S a) → FY kS jS M M' → K M') : wX9_makesSheet M (nI a) K := by
  have hN := hO.2.1.2
  intro M1 e1
  refine y_coversNone (fun M3 hz hF3 => ?_)
  have hF1 : FY kS jS M M1 := FY.rf.sf e1 (Or.inr rfl)
  have hFa : FY kS jS M M3 := hF1.tr (hF3.mono (fun k z => by omega) (fun j z => z.elim))
  have hP3 : LnR M3 S [] := ⟨by rw [hF3.2 11 (fun z => z), e1, gU_same, upd_at, if_pos rfl]; rfl, by simp, fun i hi => absurd hi (by simp), fun p hp => by rw [hz p hp]; rfl, fun w hw => absurd hw (by simp)⟩
  have loop : ∀ M3, LnR M3 S [] → FY kS jS M M3 → ∃ n40 : Nat, wX9_makesSheet_L23 (nI a) (fun M38 x2_39 => (K M38)) n40 M3 (if 0 < a then oI (bstF S [] (sN S)).1 else (-5 : Int32)) := by
    intro M3 hP3 hFa
    refine ⟨a + 1, p_loopS (fun f i => ∀ M2, LnR M2 S (shF S i) → (shF S i).length = i → FY kS jS M M2 → wX9_makesSheet_L23 (nI a) (fun M38 x2_39 => (K M38)) f M2 (if i < a then oI (bstF S (shF S i) (sN S)).1 else (-5 : Int32))) a ?_ ?_ a 0 (by omega) M3 hP3 rfl hFa⟩
    · intro f M2 hP2 hl2 hF2
      rw [if_neg (Nat.lt_irrefl a)]
      exact br_t rfl (h M2 hP2 hF2)
    · intro f i hi ih M2 hP2 hl2 hF2
      rw [if_pos hi]
      have hb := bstF_ok S (shF S i) (sN S)
      cases hbe : (bstF S (shF S i) (sN S)).1 with
      | none =>
        refine br_t rfl (h M2 ?_ hF2)
        have hst : shF S a = shF S i := by
          have := shF_stop hbe (a - i); rwa [show i + (a - i) = a by omega] at this
        rw [hst]; exact hP2
      | some w =>
        have hwN := (hb.2 w hbe).1
        have ho := hO.2.2.1 w hwN
        have hsh : shF S (i + 1) = shF S i ++ [w] := by simp only [shF, hbe]
        have hshl : (shF S (i + 1)).length = i + 1 := by rw [hsh, List.length_append, hl2]; rfl
        obtain ⟨p1, p2, p3, p4, p6⟩ := hP2
        rw [hl2] at p1 p3
        have hcl : (nI i).toNatClampNeg = i := nI_clamp (by omega)
        refine br_f (nI_ne_neg (by omega) (by decide)) ⟨by rw [p1]; exact pk_in i 10 (by omega), fun M4 e4 => ?_⟩
        rw [p1, hcl] at e4
        have hF4 : FY kS jS M2 M4 := FY.rf.st e4 (by omega)
        have hR4 := hR.fr (hF2.tr hF4) (by omega)
        have q4 : M4 21 0 11 = nI i := by rw [e4, gU_o (by decide)]; exact p1
        refine y_gainOf (ws := shF S i) hR4 hO (fun p hp => by rw [e4, gU_ne (by omega)]; exact p4 p hp) hwN (fun M5 hPt5 hF5 => ?_)
        rw [q4]
        refine ⟨pk_in i 10 (by omega), fun M6 e6 M7 e7 => ?_⟩
        rw [hcl] at e6
        have hF6 : FY kS jS M5 M6 := FY.rf.st e6 (by omega)
        have hF7 : FY kS jS M6 M7 := FY.rf.sf e7 (Or.inr rfl)
        have hFb : FY kS jS M2 M7 := ((hF4.tr (hF5.mono (fun k z => by omega) (fun j z => Or.inl z))).tr hF6).tr hF7
        have v11 : M7 21 0 11 = nI (i + 1) := by
          rw [e7, gU_same, upd_at, if_pos rfl, e6, gU_o (by decide), hF5.2 11 (by omega), q4, nI_add1]
        have v6 : ∀ j, j < i + 1 → M7 22 6 j = nI ((shF S (i + 1)).getD j 0) := fun j hj => by
          rw [e7, gU_o (by decide), e6, gU_ne (by omega), hF5.1 6 (by omega), e4, gU_same, upd_at, hsh]
          by_cases hji : j = i
          · subst hji; rw [if_pos rfl]; have := getD_last (l := shF S j) (p := w); rw [hl2] at this; rw [this]; rfl
          · rw [if_neg hji, getD_app (by omega)]; exact (p3 j (by omega)).1
        have v7 : ∀ j, j < i + 1 → M7 22 7 j = nI (gain S ((shF S (i + 1)).take j) ((shF S (i + 1)).getD j 0)) := fun j hj => by
          rw [e7, gU_o (by decide), e6, gU_same, upd_at, hF5.1 7 (by omega), e4, gU_ne (by omega), hsh]
          by_cases hji : j = i
          · subst hji; rw [if_pos rfl]; have := getD_last (l := shF S j) (p := w); rw [hl2] at this; rw [this, List.take_left' hl2]
          · rw [if_neg hji, getD_app (by omega), List.take_append_of_le_length (by omega)]; exact (p3 j (by omega)).2
        have v8 : ∀ p, p < 702 → M7 22 8 p = b2 (covB S (shF S i) p) := fun p hp => by
          rw [e7, gU_o (by decide), e6, gU_ne (by omega), hF5.1 8 (by omega), e4, gU_ne (by omega)]; exact p4 p hp
        have hPt7 : PtR M7 (sPt S w) := ⟨by rw [e7, gU_same, upd_at, if_neg (by decide), e6, gU_o (by decide)]; exact hPt5.1, fun i hi => by rw [e7, gU_o (by decide), e6, gU_ne (by omega)]; exact hPt5.2 i hi⟩
        have hlt := sPt_lt ho
        have hl29 := sPt_len ho
        refine ⟨_, p_loop0 (fun f2 i2 => ∀ M8, (∀ p, p < 702 → M8 22 8 p = b2 (covB S (shF S i) p || decide (∃ j, j < i2 ∧ (sPt S w).getD j 0 = p))) → FY (fun k => k = 8) no M7 M8 → wX9_makesSheet_L65 (fun M32 x3_33 => ((nI a ≤ (M32 21 0 11) → (wX9_makesSheet_L23 (nI a) (fun M38 x2_39 => (K M38)) (f + 1) M32 (-5 : Int32))) ∧ (¬ (nI a ≤ (M32 21 0 11)) → (wX9_nextWord M32 (fun r36 M35 => (wX9_makesSheet_L23 (nI a) (fun M38 x2_39 => (K M38)) (f + 1) M35 r36)))))) f2 M8 (nI i2)) (sPt S w).length ?_ ?_ M7 (fun p hp => ?_) FY.rf⟩
        · intro f2 M8 hc8 hF8
          have hPt8 := hPt7.fr hF8 (by omega) (fun z => z)
          have hFc : FY kS jS M2 M8 := hFb.tr (hF8.mono (fun k z => by omega) (fun j z => z.elim))
          have hP8 : LnR M8 S (shF S (i + 1)) := by
            refine ⟨by rw [hF8.2 11 (fun z => z), v11, hshl], by rw [hshl]; omega, fun j hj => ?_, fun p hp => ?_, shF_lt S _⟩
            · rw [hshl] at hj
              rw [hF8.1 6 (by omega), hF8.1 7 (by omega)]; exact ⟨v6 j hj, v7 j hj⟩
            · rw [hc8 p hp, hsh, covB_app]
              congr 2
              exact decide_eq_decide.mpr mem_iff_getD.symm
          have hFd := hF2.tr hFc
          refine br_t (by rw [hPt8.1]; exact nI_le (Nat.le_refl _) (by omega)) ?_
          dsimp only
          rw [hF8.2 11 (fun z => z), v11]
          refine pk_le a (i + 1) (fun z => ?_) (fun z => ?_)
          · have := ih M8 hP8 hshl hFd
            rw [if_neg (by omega)] at this; exact this
          · refine y_nextWord (hR.fr hFd (by omega)) hO hP8 (fun M9 hF9 => ?_)
            have := ih M9 (hP8.fr hF9 (by omega) (by omega) (by omega) (by omega)) hshl (hFd.tr (hF9.mono (fun k z => by omega) (fun j z => Or.inl z)))
            rw [if_pos (by omega)] at this; exact this
        · intro f2 i2 hi2 ih2 M8 hc8 hF8
          have hPt8 := hPt7.fr hF8 (by omega) (fun z => z)
          have hp := getD_lt hlt hi2
          refine br_f (by rw [hPt8.1]; exact nI_ge hi2 (by omega)) ⟨pk_in i2 29 (by omega), ?_⟩
          rw [nI_clamp (by omega), hPt8.2 i2 hi2]
          refine ⟨pk_in _ 702 hp, fun M9 e9 => ?_⟩
          rw [nI_clamp (by omega)] at e9
          rw [nI_add1]
          refine ih2 M9 (fun x hx => ?_) (hF8.st e9 rfl)
          rw [e9, gU_same, upd_at]
          by_cases hxp : x = (sPt S w).getD i2 0
          · rw [if_pos hxp]
            have : decide (∃ j, j < i2 + 1 ∧ (sPt S w).getD j 0 = x) = true := decide_eq_true ⟨i2, by omega, hxp.symm⟩
            rw [this, Bool.or_true]; rfl
          · rw [if_neg hxp, hc8 x hx]
            congr 2
            refine decide_eq_decide.mpr ⟨fun ⟨j, h1, h2⟩ => ⟨j, by omega, h2⟩, fun ⟨j, h1, h2⟩ => ⟨j, ?_, h2⟩⟩
            rcases Nat.lt_or_ge j i2 with z | z
            · exact z
            · obtain rfl : j = i2 := by omega
              exact absurd h2.symm hxp
        · rw [v8 p hp]; simp
  refine pk_le a 0 (fun z => ?_) (fun z => ?_)
  · have := loop M3 hP3 hFa
    rw [if_neg (by omega)] at this; exact this
  · refine y_nextWord (ws := []) (hR.fr hFa (by omega)) hO hP3 (fun M4 hF4 => ?_)
    have := loop M4 (hP3.fr hF4 (by omega) (by omega) (by omega) (by omega)) (hFa.tr (hF4.mono (fun k z => by omega) (fun j z => Or.inl z)))
    rw [if_pos (by omega)] at this; exact this
/-! a sheet that is done -/
theorem sL_cg (e : ∀ i, 1410 ≤ i → T i = S i) : sL T w = sL S w := by unfold sL; rw [e _ (by omega)]
theorem sC_cg (e : ∀ i, 1410 ≤ i → T i = S i) : sC T w = sC S w := by funext j; unfold sC; rw [e _ (by omega)]
theorem OkW.cg (h : OkW S w) (e : ∀ i, 1410 ≤ i → T i = S i) : OkW T w := by
  unfold OkW; rw [sL_cg e, sC_cg e, e _ (by omega)]
  refine ⟨h.1, h.2.1, h.2.2.1, fun j hj => ?_⟩
  rw [e _ (by omega)]; exact h.2.2.2 j hj
theorem y_writesSheet {K : gW → Prop} (hR : RW M S) (hO : Ok S) (hP : LnR M S ws) (h : ∀ M', RW M' (prac S ws) → FY k0 no M M' → K M') : wX9_writesSheet M K := by
  have hN := hO.2.1.2
  have hP' := hP
  obtain ⟨h1, h10, h3, h4, h6⟩ := hP'
  refine ⟨_, p_loop0 (fun f i => ∀ M2, RW M2 (wrS S (ws.take i)) → FY k0 no M M2 → wX9_writesSheet_L2 (fun M26 x1_27 => ((vp_in (2 : Int32) 1730) ∧ ((vp_in (2 : Int32) 1730) ∧ (∀ M30 : gW, M30 = gU M26 22 0 (upd (M26 22 0) (2 : Int32).toNatClampNeg ((M26 22 0 (2 : Int32).toNatClampNeg) + (M26 21 0 11))) → ((vp_in (4 : Int32) 1730) ∧ ((vp_in (4 : Int32) 1730) ∧ (∀ M34 : gW, M34 = gU M30 22 0 (upd (M30 22 0) (4 : Int32).toNatClampNeg ((M30 22 0 (4 : Int32).toNatClampNeg) + (1 : Int32))) → (K M34)))))))) f M2 (nI i)) ws.length ?_ ?_ M hR FY.rf⟩
  · intro f M2 hR2 hF2
    refine br_t (by rw [hF2.2 11 (fun z => z), h1]; exact nI_le (Nat.le_refl _) (by omega)) ⟨pk_in 2 1730 (by omega), pk_in 2 1730 (by omega), fun M3 e3 => ⟨pk_in 4 1730 (by omega), pk_in 4 1730 (by omega), fun M4 e4 => ?_⟩⟩
    rw [show (2 : Int32).toNatClampNeg = 2 from rfl, hF2.2 11 (fun z => z), h1] at e3
    rw [show (4 : Int32).toNatClampNeg = 4 from rfl] at e4
    rw [List.take_length] at hR2
    have hlo : ∀ i, i < 6 ∨ 708 ≤ i → wrS S ws i = S i := fun i hi => wrS_other hi hO.2.2.1 ws S h6
    have r3 := hR2.up e3
    have r4 := r3.up e4
    refine h M4 (fun i hi => ?_) ((hF2.st e3 rfl).st e4 rfl)
    rw [r4 i hi, r3 4 (by omega), hR2 2 (by omega), hlo 2 (by omega)]
    have e5 : upd (wrS S ws) 2 (S 2 + nI ws.length) 4 = S 4 := by rw [upd_at, if_neg (by decide)]; exact hlo 4 (by omega)
    rw [e5]; rfl
  · intro f i hi ih M2 hR2 hF2
    have hm := h6 _ (getD_mem hi)
    have hin : vp_in (nI i) 10 := pk_in i 10 (by omega)
    refine br_f (by rw [hF2.2 11 (fun z => z), h1]; exact nI_ge hi (by omega)) ⟨hin, ?_⟩
    have ew : M2 22 6 (nI i).toNatClampNeg = nI (ws.getD i 0) := by rw [nI_clamp (by omega), hF2.1 6 (by omega)]; exact (h3 i hi).1
    have etk := take_succ_getD (l := ws) hi
    have hwr : ∀ i', i' < 6 ∨ 708 ≤ i' → wrS S (ws.take i) i' = S i' := fun i' hi' => wrS_other hi' hO.2.2.1 (ws.take i) S (fun w hw => h6 w (List.mem_of_mem_take hw))
    generalize ws.getD i 0 = w at *
    have ho := hO.2.2.1 w hm
    have hc : ∀ j, j < sL S w → sC S w j < 26 := fun j hj => (ho.2.2.2 j hj).2
    have h15 := ho.2.2.1
    refine ⟨_, p_loop0 (fun f2 j => ∀ M3, RW M3 ((seqW (sC S w) j).foldl aT (wrS S (ws.take i))) → FY k0 no M M3 → wX9_writesSheet_L19 M2 (nI i) (fun M23 x3_24 => (wX9_writesSheet_L2 (fun M26 x1_27 => ((vp_in (2 : Int32) 1730) ∧ ((vp_in (2 : Int32) 1730) ∧ (∀ M30 : gW, M30 = gU M26 22 0 (upd (M26 22 0) (2 : Int32).toNatClampNeg ((M26 22 0 (2 : Int32).toNatClampNeg) + (M26 21 0 11))) → ((vp_in (4 : Int32) 1730) ∧ ((vp_in (4 : Int32) 1730) ∧ (∀ M34 : gW, M34 = gU M30 22 0 (upd (M30 22 0) (4 : Int32).toNatClampNeg ((M30 22 0 (4 : Int32).toNatClampNeg) + (1 : Int32))) → (K M34)))))))) f M23 (nI i + (1 : Int32)))) f2 M3 (nI j)) (sL S w) ?_ ?_ M2 hR2 hF2⟩
    · intro f2 M3 hR3 hF3
      have hlo : ∀ i', 1410 ≤ i' → ((seqW (sC S w) (sL S w)).foldl aT (wrS S (ws.take i))) i' = S i' := fun i' hi' => by rw [aTs_other (by omega) _ _ (seqW_lt _ hc)]; exact hwr i' (by omega)
      unfold wX9_writesSheet_L19
      rw [ew]
      refine y_sizeOf hR3 (ho.cg hlo) (by omega) (br_t ?_ ?_)
      · rw [sL_cg hlo]; exact nI_le (Nat.le_refl _) (by omega)
      · rw [nI_add1]
        refine ih M3 ?_ hF3
        rw [etk]; unfold wrS; rw [List.foldl_append, List.foldl_cons, List.foldl_nil]; exact hR3
    · intro f2 j hj ih2 M3 hR3 hF3
      have hsq : ∀ n, n ≤ sL S w → ∀ p ∈ seqW (sC S w) n, p < 702 := fun n hn => seqW_lt n (fun i hi => hc i (by omega))
      have hlo : ∀ i', 1410 ≤ i' → ((seqW (sC S w) j).foldl aT (wrS S (ws.take i))) i' = S i' := fun i' hi' => by rw [aTs_other (by omega) _ _ (hsq j (by omega))]; exact hwr i' (by omega)
      have hcj := hc j hj
      have hlo4 : ∀ i', 1410 ≤ i' → (aT ((seqW (sC S w) j).foldl aT (wrS S (ws.take i))) (sC S w j)) i' = S i' := fun i' hi' => by rw [aT_other (by omega) (by omega)]; exact hlo i' hi'
      unfold wX9_writesSheet_L19
      rw [ew]
      refine y_sizeOf hR3 (ho.cg hlo) (by omega) (br_f ?_ (y_letterAt hR3 (ho.cg hlo) (by omega) (by rw [sL_cg hlo]; exact hj) ?_))
      · rw [sL_cg hlo]; exact nI_ge hj (by omega)
      · rw [sC_cg hlo]
        refine y_tries (s := false) hR3 (by omega) (fun M4 hR4 hF4 => ?_)
        have hF4' := hF3.tr hF4
        refine pk_le j 0 (fun z => ?_) (fun z => ?_)
        · obtain rfl : j = 0 := by omega
          rw [nI_add1 0]; exact ih2 M4 hR4 hF4'
        · have es : nI j - (1 : Int32) = nI (j - 1) := pk_sub (b := 1) (by omega)
          rw [es]
          refine y_letterAt hR4 (ho.cg hlo4) (by omega) (by show _ < sL (aT _ _) w; rw [sL_cg hlo4]; omega) (y_letterAt hR4 (ho.cg hlo4) (by omega) (by show _ < sL (aT _ _) w; rw [sL_cg hlo4]; exact hj) (y_joinOf ?_))
          show wX9_tries M4 (nI (jn (sC (aT _ _) w (j - 1)) (sC (aT _ _) w j))) _ _
          rw [sC_cg hlo4]
          refine y_tries (s := false) hR4 (jn_lt (hc (j - 1) (by omega)) hcj) (fun M5 hR5 hF5 => ?_)
          rw [nI_add1 j]
          refine ih2 M5 ?_ (hF4'.tr hF5)
          simp only [seqW, if_neg (show ¬ j = 0 by omega), List.foldl_append, List.foldl_cons, List.foldl_nil]
          exact hR5
end YR2
