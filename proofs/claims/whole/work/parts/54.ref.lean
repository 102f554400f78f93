/-! ===== LAYER 2: the reference: its list of words ===== -/
section YL
variable {M M' : gW} {S T Sn : gR} {sn : Bool} {h n : Nat} {Hs : Nat → gR} {t : Nat → Int32} {ks js : Nat → Prop}
theorem isL_44 : isL 44 = false := by decide
theorem y_faultW {K : Int32 → gW → Prop} (hT : TY M t n) (hbad : ∀ x, fltW t n 0 0 = some x → K (nI x) M) (hgood : fltW t n 0 0 = none → K (-5) M) : wX9_faultOfWords M K := by
  have hn := hT.2.1
  have key : ∀ d i l, i + d = n → l ≤ 15 → (∀ x, fltW t d i l = some x → K (nI x) M) → (fltW t d i l = none → K (-5) M) → wX9_faultOfWords_L4 K (fun M16 x1_17 x2_18 => ((x1_17 = 0 → (K (M16 21 0 14) M16)) ∧ (¬ (x1_17 = 0) → (K (-5 : Int32) M16)))) (d + 1) M (nI l) (nI i) := by
    intro d
    induction d with
    | zero =>
      intro i l hi hl hb hg
      obtain rfl : i = n := by omega
      refine br_t (by rw [hT.1]; exact nI_le (Nat.le_refl _) (by omega)) ?_
      dsimp only
      refine pk_eq l 0 (fun z => ?_) (fun z => ?_)
      · rw [hT.1]; refine hb i ?_; show (if l = 0 then some i else none) = some i; rw [if_pos z]
      · refine hg ?_; show (if l = 0 then some i else none) = none; rw [if_neg z]
    | succ d ih =>
      intro i l hi hl hb hg
      have hin : vp_in (nI i) 60 := pk_in i 60 (by omega)
      have hst : fltW t (d + 1) i l = (match stepW l (t i) with | some l' => fltW t d (i + 1) l' | none => some i) := rfl
      refine br_f (by rw [hT.1]; exact nI_ge (by omega) (by omega)) (y_isLetter hT (by omega) ?_)
      rw [decide_eq_true (show i < n by omega), Bool.true_and]
      have comma : ¬ (isL (t i) = true ∧ l < 15) → (vp_in (nI i) 60) ∧ (((M 22 9 (nI i).toNatClampNeg) = (44 : Int32) → ((nI l = 0 → (K (nI i) M)) ∧ (¬ (nI l = 0) → (wX9_faultOfWords_L4 K (fun M16 x1_17 x2_18 => ((x1_17 = 0 → (K (M16 21 0 14) M16)) ∧ (¬ (x1_17 = 0) → (K (-5 : Int32) M16)))) (d + 1) M (0 : Int32) (nI i + (1 : Int32)))))) ∧ (¬ ((M 22 9 (nI i).toNatClampNeg) = (44 : Int32)) → (K (nI i) M))) := by
        intro hno
        rw [nI_clamp (by omega), hT.2.2 i (by omega), nI_add1]
        refine ⟨hin, fun z => pk_eq l 0 (fun y => hb i ?_) (fun y => ?_), fun z => hb i ?_⟩
        · rw [hst]; unfold stepW; rw [if_neg hno, if_neg (by omega)]
        · have e : fltW t (d + 1) i l = fltW t d (i + 1) 0 := by rw [hst]; unfold stepW; rw [if_neg hno, if_pos ⟨z, by omega⟩]
          rw [e] at hb hg
          exact ih (i + 1) 0 (by omega) (by omega) hb hg
        · rw [hst]; unfold stepW; rw [if_neg hno, if_neg (fun y => z y.1)]
      cases hx : isL (t i) with
      | false => exact br_t rfl (comma (fun z => by rw [hx] at z; exact absurd z.1 (by decide)))
      | true =>
        refine br_f (by decide) (pk_le 15 l (fun z => comma (fun y => absurd y.2 (by omega))) (fun z => ?_))
        have e : fltW t (d + 1) i l = fltW t d (i + 1) (l + 1) := by rw [hst]; unfold stepW; rw [if_pos ⟨hx, z⟩]
        rw [e] at hb hg
        rw [nI_add1, nI_add1]
        exact ih (i + 1) (l + 1) (by omega) (by omega) hb hg
  exact ⟨_, key n 0 0 (by omega) (by omega) hbad hgood⟩
/-- the next word of a text of words -/
theorem run_of : ∀ d p l fr, p + d = n → p = fr + l → l ≤ 15 → (∀ j, j < l → isL (t (fr + j)) = true) → fltW t d p l = none → ∃ m d', (∀ j, j < m → isL (t (fr + j)) = true) ∧ 1 ≤ m ∧ m ≤ 15 ∧ fr + m + d' = n ∧ (d' = 0 ∨ ∃ d'', d' = d'' + 1 ∧ t (fr + m) = 44 ∧ fltW t d'' (fr + m + 1) 0 = none) ∧ ∀ S, goC t d p fr S = goC t d' (fr + m) fr S := by
  intro d
  induction d with
  | zero =>
    intro p l fr hp hl h15 hL hf
    have h0 : ¬ l = 0 := fun z => by unfold fltW at hf; rw [if_pos z] at hf; cases hf
    subst hl
    exact ⟨l, 0, hL, by omega, h15, hp, Or.inl rfl, fun S => rfl⟩
  | succ d ih =>
    intro p l fr hp hl h15 hL hf
    have hst : fltW t (d + 1) p l = (match stepW l (t p) with | some l' => fltW t d (p + 1) l' | none => some p) := rfl
    rw [hst] at hf
    unfold stepW at hf
    by_cases hx : isL (t p) = true ∧ l < 15
    · rw [if_pos hx] at hf
      obtain ⟨m, d', h1, h2, h3, h4, h5, h6⟩ := ih (p + 1) (l + 1) fr (by omega) (by omega) (by omega) (fun j hj => by
        rcases Nat.lt_or_ge j l with y | y
        · exact hL j y
        · obtain rfl : j = l := by omega
          rw [← hl]; exact hx.1) hf
      refine ⟨m, d', h1, h2, h3, h4, h5, fun S => ?_⟩
      rw [← h6 S]
      show (if t p = 44 then _ else _) = _
      rw [if_neg (fun z => by rw [z, isL_44] at hx; exact absurd hx.1 (by decide))]
    · rw [if_neg hx] at hf
      by_cases hc : t p = 44 ∧ 0 < l
      · rw [if_pos hc] at hf
        subst hl
        exact ⟨l, d + 1, hL, hc.2, h15, by omega, Or.inr ⟨d, rfl, hc.1, hf⟩, fun S => rfl⟩
      · rw [if_neg hc] at hf; cases hf
theorem y_isOnList {K : Int32 → gW → Prop} {fr m : Nat} (hR : RW M S) (hO : OkL S) (hT : TY M t n) (hL : ∀ j, j < m → isL (t (fr + j)) = true) (h15 : m ≤ 15) (hfr : fr + m ≤ n) (hk : K (b2 (onB S (fun j => lt t (fr + j)) m)) M) : wX9_isOnList M (nI fr) (nI m) K := by
  obtain ⟨⟨h5, hN⟩, hw⟩ := hO
  have hn := hT.2.1
  have key : ∀ w, (∃ w', w' < w ∧ (sL S w' = m ∧ ∀ j, j < m → sC S w' j = lt t (fr + j))) ∨ ¬ (∃ w', w' < w ∧ (sL S w' = m ∧ ∀ j, j < m → sC S w' j = lt t (fr + j))) := fun w => Classical.em _
  refine ⟨_, p_loop0 (fun f w => ∀ e : Bool, (e = true ↔ ∃ w', w' < w ∧ (sL S w' = m ∧ ∀ j, j < m → sC S w' j = lt t (fr + j))) → wX9_isOnList_L5 (nI fr) (nI m) (fun M29 x3_30 x4_31 => ((x3_30 = 0 ∨ x3_30 = 1) ∧ (K x3_30 M29))) f M (b2 e) (nI w)) (sN S) ?_ ?_ false ⟨fun z => (by cases z), fun ⟨w', hw', _⟩ => absurd hw' (by omega)⟩⟩
  · intro f e he
    refine ⟨pk_in 5 1730 (by omega), br_t ?_ ⟨b2_01 _, ?_⟩⟩
    · rw [show (5 : Int32).toNatClampNeg = 5 from rfl, hR 5 (by omega), h5]; exact nI_le (Nat.le_refl _) (by omega)
    · have : e = onB S (fun j => lt t (fr + j)) m := by
        rw [Bool.eq_iff_iff, he, onB_iff]
      rw [this]; exact hk
  · intro f w hwi ih e he
    have ho := hw w hwi
    have hs15 := ho.2.2.1
    refine ⟨pk_in 5 1730 (by omega), br_f ?_ ?_⟩
    · rw [show (5 : Int32).toNatClampNeg = 5 from rfl, hR 5 (by omega), h5]; exact nI_ge hwi (by omega)
    · refine y_sizeOf hR ho (by omega) ?_
      have inner : ∀ z : Bool, (z = true → sL S w = m) → (z = false → ¬ sL S w = m) → ∃ n28 : Nat, wX9_isOnList_L36 (nI fr) (nI m) (nI w) (fun M23 x5_24 x6_25 => ((b2 e = 0 → ((x5_24 = 0 → (wX9_isOnList_L5 (nI fr) (nI m) (fun M29 x3_30 x4_31 => ((x3_30 = 0 ∨ x3_30 = 1) ∧ (K x3_30 M29))) f M23 (0 : Int32) (nI w + (1 : Int32)))) ∧ (¬ (x5_24 = 0) → (wX9_isOnList_L5 (nI fr) (nI m) (fun M29 x3_30 x4_31 => ((x3_30 = 0 ∨ x3_30 = 1) ∧ (K x3_30 M29))) f M23 (1 : Int32) (nI w + (1 : Int32)))))) ∧ (¬ (b2 e = 0) → (wX9_isOnList_L5 (nI fr) (nI m) (fun M29 x3_30 x4_31 => ((x3_30 = 0 ∨ x3_30 = 1) ∧ (K x3_30 M29))) f M23 (1 : Int32) (nI w + (1 : Int32)))))) n28 M (b2 z) (0 : Int32) := by
        intro z hz1 hz0
        -- behind the letters
        have fin : ∀ e2 : Bool, (e2 = true ↔ (sL S w = m ∧ ∀ j, j < m → sC S w j = lt t (fr + j))) → ((b2 e = 0 → ((b2 e2 = 0 → (wX9_isOnList_L5 (nI fr) (nI m) (fun M29 x3_30 x4_31 => ((x3_30 = 0 ∨ x3_30 = 1) ∧ (K x3_30 M29))) f M (0 : Int32) (nI w + (1 : Int32)))) ∧ (¬ (b2 e2 = 0) → (wX9_isOnList_L5 (nI fr) (nI m) (fun M29 x3_30 x4_31 => ((x3_30 = 0 ∨ x3_30 = 1) ∧ (K x3_30 M29))) f M (1 : Int32) (nI w + (1 : Int32)))))) ∧ (¬ (b2 e = 0) → (wX9_isOnList_L5 (nI fr) (nI m) (fun M29 x3_30 x4_31 => ((x3_30 = 0 ∨ x3_30 = 1) ∧ (K x3_30 M29))) f M (1 : Int32) (nI w + (1 : Int32))))) := by
          intro e2 he2
          have hor : ∀ v : Bool, (v = true ↔ (e = true ∨ e2 = true)) → wX9_isOnList_L5 (nI fr) (nI m) (fun M29 x3_30 x4_31 => ((x3_30 = 0 ∨ x3_30 = 1) ∧ (K x3_30 M29))) f M (b2 v) (nI w + (1 : Int32)) := by
            intro v hv
            rw [nI_add1]
            refine ih v ?_
            rw [hv, he, he2]
            constructor
            · rintro (⟨w', y1, y2⟩ | y)
              · exact ⟨w', by omega, y2⟩
              · exact ⟨w, by omega, y⟩
            · rintro ⟨w', y1, y2⟩
              rcases Nat.lt_or_ge w' w with y | y
              · exact Or.inl ⟨w', y, y2⟩
              · obtain rfl : w' = w := by omega
                exact Or.inr y2
          cases e with
          | true => exact br_f (by decide) (hor true (by simp))
          | false =>
            refine br_t rfl ?_
            cases e2 with
            | true => exact br_f (by decide) (hor true (by simp))
            | false => exact br_t rfl (hor false (by simp))
        refine ⟨_, p_loopS (fun f2 j => ∀ z : Bool, (z = true → sL S w = m ∧ ∀ j', j' < j → sC S w j' = lt t (fr + j')) → (z = false → ¬ (sL S w = m ∧ ∀ j, j < m → sC S w j = lt t (fr + j))) → wX9_isOnList_L36 (nI fr) (nI m) (nI w) (fun M23 x5_24 x6_25 => ((b2 e = 0 → ((x5_24 = 0 → (wX9_isOnList_L5 (nI fr) (nI m) (fun M29 x3_30 x4_31 => ((x3_30 = 0 ∨ x3_30 = 1) ∧ (K x3_30 M29))) f M23 (0 : Int32) (nI w + (1 : Int32)))) ∧ (¬ (x5_24 = 0) → (wX9_isOnList_L5 (nI fr) (nI m) (fun M29 x3_30 x4_31 => ((x3_30 = 0 ∨ x3_30 = 1) ∧ (K x3_30 M29))) f M23 (1 : Int32) (nI w + (1 : Int32)))))) ∧ (¬ (b2 e = 0) → (wX9_isOnList_L5 (nI fr) (nI m) (fun M29 x3_30 x4_31 => ((x3_30 = 0 ∨ x3_30 = 1) ∧ (K x3_30 M29))) f M23 (1 : Int32) (nI w + (1 : Int32)))))) f2 M (b2 z) (nI j)) m ?_ ?_ m 0 (by omega) z (fun y => ⟨hz1 y, fun j' hj' => absurd hj' (by omega)⟩) (fun y y2 => hz0 y y2.1)⟩
        · intro f2 z y1 y0
          refine br_t (nI_le (Nat.le_refl _) (by omega)) (fin z ⟨y1, fun q => ?_⟩)
          cases z with
          | true => rfl
          | false => exact absurd q (y0 rfl)
        · intro f2 j hj ih2 z y1 y0
          refine br_f (nI_ge hj (by omega)) ?_
          cases z with
          | false => exact br_t rfl (fin false ⟨fun q => (by cases q), fun q => absurd q (y0 rfl)⟩)
          | true =>
            obtain ⟨g1, g2⟩ := y1 rfl
            have hlt := lt_of (hL j hj)
            refine br_f (by decide) (y_letterAt hR ho (by omega) (by omega) ?_)
            rw [nI_add, nI_add1 j]
            refine ⟨pk_in (fr + j) 60 (by omega), ?_⟩
            rw [nI_clamp (by omega), hT.2.2 _ (by omega), hlt.2]
            have hcj := (ho.2.2.2 j (by omega)).2
            refine pk_eq (sC S w j) (lt t (fr + j)) (fun q => ?_) (fun q => ?_)
            · refine ih2 true (fun _ => ⟨g1, fun j' hj' => ?_⟩) (fun q => by cases q)
              rcases Nat.lt_or_ge j' j with y | y
              · exact g2 j' y
              · obtain rfl : j' = j := by omega
                exact q
            · exact ih2 false (fun q => by cases q) (fun _ y => q (y.2 j hj))
      refine pk_eq (sL S w) m (fun q => inner true (fun _ => q) (fun y => by cases y)) (fun q => inner false (fun y => by cases y) (fun _ => q))
/-- one word goes to the list, with fault 0 if it is full -/
theorem y_addsAll {K : Int32 → gW → Prop} (hR : RW M S) (hO : OkL S) (hT : TY M t n) (hv : fltW t n 0 0 = none) (hy : ∀ T M', goC t n 0 0 S = some T → OkL T → RW M' T → FY k0 no M M' → K 1 M') (hno : ∀ M', goC t n 0 0 S = none → FY k0 no M M' → K 0 M') : wX9_addsAll M K := by
  have hn := hT.2.1
  have key : ∀ k fr S1 M2, fr ≤ n → n - fr ≤ k → fltW t (n - fr) fr 0 = none → RW M2 S1 → OkL S1 → FY k0 no M M2 → (∀ T M', goC t (n - fr) fr fr S1 = some T → OkL T → RW M' T → FY k0 no M M' → K 1 M') → (∀ M', goC t (n - fr) fr fr S1 = none → FY k0 no M M' → K 0 M') → wX9_addsAll_L2 K (fun M40 x1_41 => (K (1 : Int32) M40)) (k + 2) M2 (nI fr) := by
    intro k
    induction k with
    | zero =>
      intro fr S1 M2 hfr hk hf
      obtain rfl : fr = n := by omega
      rw [Nat.sub_self] at hf
      unfold fltW at hf
      rw [if_pos rfl] at hf; cases hf
    | succ k ih =>
      intro fr S1 M2 hfr hk hf hR2 hO2 hF2 hy2 hno2
      have hT2 := hT.fr hF2 (by omega) (fun z => z)
      obtain ⟨m, d', hL, h1, h15, hd, hend, hgo⟩ := run_of (n := n) (t := t) (n - fr) fr 0 fr (by omega) rfl (by omega) (fun j hj => absurd hj (by omega)) hf
      rw [hgo] at hy2 hno2
      refine br_f (by rw [hT2.1]; exact nI_ge (by omega) (by omega)) ?_
      refine ⟨_, p_loop0 (fun f j => wX9_addsAll_L12 (nI fr) (fun M11 x2_12 => (wX9_isOnList M11 (nI fr) x2_12 (fun r14 M13 => ((r14 = 0 → ((vp_in (5 : Int32) 1730) ∧ (((M13 22 0 (5 : Int32).toNatClampNeg) = (20 : Int32) → (K (0 : Int32) M13)) ∧ (¬ ((M13 22 0 (5 : Int32).toNatClampNeg) = (20 : Int32)) → ((vp_in (5 : Int32) 1730) ∧ (∀ y19 : Int32, y19 = ((1410 : Int32) + ((16 : Int32) * (M13 22 0 (5 : Int32).toNatClampNeg))) → ((vp_in y19 1730) ∧ (∀ M22 : gW, M22 = gU M13 22 0 (upd (M13 22 0) y19.toNatClampNeg x2_12) → (∃ n38 : Nat, wX9_addsAll_L74 (nI fr) x2_12 y19 (fun M32 x4_33 => ((vp_in (5 : Int32) 1730) ∧ ((vp_in (5 : Int32) 1730) ∧ (∀ M36 : gW, M36 = gU M32 22 0 (upd (M32 22 0) (5 : Int32).toNatClampNeg ((M32 22 0 (5 : Int32).toNatClampNeg) + (1 : Int32))) → (wX9_addsAll_L2 K (fun M40 x1_41 => (K (1 : Int32) M40)) (k + 2) M36 ((nI fr) + (x2_12 + (1 : Int32)))))))) n38 M22 (0 : Int32)))))))))) ∧ (¬ (r14 = 0) → (wX9_addsAll_L2 K (fun M40 x1_41 => (K (1 : Int32) M40)) (k + 2) M13 ((nI fr) + (x2_12 + (1 : Int32))))))))) f M2 (nI j)) m ?_ ?_⟩
      · intro f
        unfold wX9_addsAll_L12
        rw [nI_add]
        refine y_isLetter hT2 (by omega) ?_
        have hnl : (decide (fr + m < n) && isL (t (fr + m))) = false := by
          rcases hend with z | ⟨d'', z1, z2, z3⟩
          · rw [decide_eq_false (by omega), Bool.false_and]
          · rw [z2, isL_44, Bool.and_false]
        rw [hnl]
        refine br_t rfl (y_isOnList hR2 hO2 hT2 hL h15 (by omega) ?_)
        have hc : ∀ j, j < m → lt t (fr + j) < 26 := fun j hj => (lt_of (hL j hj)).1
        -- behind the word, with the list S'
        have next : ∀ S' M3, addW S1 (fun j => lt t (fr + j)) m = some S' → RW M3 S' → OkL S' → FY k0 no M M3 → wX9_addsAll_L2 K (fun M40 x1_41 => (K (1 : Int32) M40)) (k + 2) M3 ((nI fr) + (nI m + (1 : Int32))) := by
          intro S' M3 ea hR3 hO3 hF3
          rw [nI_add1, nI_add]
          rcases hend with z | ⟨d'', z1, z2, z3⟩
          · subst z
            have eg : goC t 0 (fr + m) fr S1 = some S' := by
              show addW S1 (fun j => lt t (fr + j)) (fr + m - fr) = some S'
              rw [Nat.add_sub_cancel_left]; exact ea
            refine br_t (by rw [(hT.fr hF3 (by omega) (fun z => z)).1]; exact nI_le (by omega) (by omega)) (hy2 S' M3 eg hO3 hR3 hF3)
          · subst z1
            have eg : goC t (d'' + 1) (fr + m) fr S1 = goC t d'' (fr + m + 1) (fr + m + 1) S' := by
              show (if t (fr + m) = 44 then _ else _) = _
              rw [if_pos z2, Nat.add_sub_cancel_left, ea]
            rw [eg] at hy2 hno2
            have ed : n - (fr + (m + 1)) = d'' := by omega
            refine ih (fr + (m + 1)) S' M3 (by omega) (by omega) (by rw [ed]; exact z3) hR3 hO3 hF3 ?_ ?_
            · rw [ed]; exact hy2
            · rw [ed]; exact hno2
        have hv5 : M2 22 0 (5 : Int32).toNatClampNeg = nI (sN S1) := by rw [show (5 : Int32).toNatClampNeg = 5 from rfl, hR2 5 (by omega)]; exact hO2.1.1
        have hN := hO2.1.2
        cases hon : onB S1 (fun j => lt t (fr + j)) m with
        | true =>
          refine br_f (by decide) (next S1 M2 ?_ hR2 hO2 hF2)
          unfold addW; rw [if_pos hon]
        | false =>
          refine br_t rfl ⟨pk_in 5 1730 (by omega), ?_⟩
          rw [hv5]
          refine pk_eq (sN S1) 20 (fun z => hno2 M2 ?_ hF2) (fun z => ⟨pk_in 5 1730 (by omega), fun y19 ey => ?_⟩)
          · have ea : addW S1 (fun j => lt t (fr + j)) m = none := by unfold addW; rw [if_neg (by rw [hon]; decide), if_pos z]
            rcases hend with z | ⟨d'', z1, z2, z3⟩
            · subst z
              show addW S1 (fun j => lt t (fr + j)) (fr + m - fr) = none
              rw [Nat.add_sub_cancel_left]; exact ea
            · subst z1
              show (if t (fr + m) = 44 then _ else _) = _
              rw [if_pos z2, Nat.add_sub_cancel_left, ea]
          · have ea : addW S1 (fun j => lt t (fr + j)) m = some (appW S1 (fun j => lt t (fr + j)) m) := by unfold addW; rw [if_neg (by rw [hon]; decide), if_neg z]
            have em : (16 : Int32) * nI (sN S1) = nI (16 * sN S1) := pk_mul 16 _
            have ey' : y19 = nI (1410 + 16 * sN S1) := by rw [ey, em]; exact nI_add 1410 _
            subst ey'
            refine ⟨pk_in (1410 + 16 * sN S1) 1730 (by omega), fun M4 e4 => ?_⟩
            rw [nI_clamp (by omega)] at e4
            have r4 := hR2.up e4
            have hF4 : FY k0 no M M4 := hF2.st e4 rfl
            refine ⟨_, p_loop0 (fun f2 j => ∀ M5, RW M5 (fun i => if i = 1410 + 16 * sN S1 then nI m else if 1410 + 16 * sN S1 + 1 ≤ i ∧ i < 1410 + 16 * sN S1 + 1 + j then nI (lt t (fr + (i - (1410 + 16 * sN S1 + 1)))) else S1 i) → FY k0 no M M5 → wX9_addsAll_L74 (nI fr) (nI m) (nI (1410 + 16 * sN S1)) (fun M32 x4_33 => ((vp_in (5 : Int32) 1730) ∧ ((vp_in (5 : Int32) 1730) ∧ (∀ M36 : gW, M36 = gU M32 22 0 (upd (M32 22 0) (5 : Int32).toNatClampNeg ((M32 22 0 (5 : Int32).toNatClampNeg) + (1 : Int32))) → (wX9_addsAll_L2 K (fun M40 x1_41 => (K (1 : Int32) M40)) (k + 2) M36 ((nI fr) + (nI m + (1 : Int32)))))))) f2 M5 (nI j)) m ?_ ?_ M4 (fun i hi => ?_) hF4⟩
            · intro f2 M5 r5 hF5
              refine br_t (nI_le (Nat.le_refl _) (by omega)) ⟨pk_in 5 1730 (by omega), pk_in 5 1730 (by omega), fun M6 e6 => ?_⟩
              rw [show (5 : Int32).toNatClampNeg = 5 from rfl] at e6
              have r6 := r5.up e6
              refine next _ M6 ea (fun i hi => ?_) (appW_ok hO2 (by omega) h1 h15 hc) (hF5.st e6 rfl)
              rw [r6 i hi, upd_at, r5 5 (by omega)]
              dsimp only
              rw [if_neg (show ¬ 5 = 1410 + 16 * sN S1 by omega), if_neg (show ¬ (1410 + 16 * sN S1 + 1 ≤ 5 ∧ 5 < 1410 + 16 * sN S1 + 1 + m) by omega)]
              unfold appW
              rfl
            · intro f2 j hj ih2 M5 r5 hF5
              have hlt := lt_of (hL j hj)
              have ea2 : nI (1410 + 16 * sN S1) + (1 : Int32) + nI j = nI (1410 + 16 * sN S1 + 1 + j) := by rw [nI_add1, nI_add]
              refine br_f (nI_ge hj (by omega)) ?_
              rw [ea2, nI_add]
              refine ⟨pk_in (fr + j) 60 (by omega), pk_in (1410 + 16 * sN S1 + 1 + j) 1730 (by omega), fun M6 e6 => ?_⟩
              rw [nI_clamp (by omega), nI_clamp (by omega), (hT.fr hF5 (by omega) (fun z => z)).2.2 _ (by omega), hlt.2] at e6
              have r6 := r5.up e6
              rw [nI_add1 j]
              refine ih2 M6 (fun i hi => ?_) (hF5.st e6 rfl)
              rw [r6 i hi, upd_at]; dsimp only
              by_cases z1 : i = 1410 + 16 * sN S1 + 1 + j
              · rw [if_pos z1, if_neg (by omega), if_pos (by omega), z1]; congr 3; omega
              · rw [if_neg z1]
                by_cases z2 : i = 1410 + 16 * sN S1
                · rw [if_pos z2, if_pos z2]
                · rw [if_neg z2, if_neg z2]
                  by_cases z3 : 1410 + 16 * sN S1 + 1 ≤ i ∧ i < 1410 + 16 * sN S1 + 1 + j
                  · rw [if_pos z3, if_pos (by omega)]
                  · rw [if_neg z3, if_neg (by omega)]
            · rw [r4 i hi, upd_at]; dsimp only
              by_cases z2 : i = 1410 + 16 * sN S1
              · rw [if_pos z2, if_pos z2]
              · rw [if_neg z2, if_neg z2, if_neg (by omega)]
      · intro f j hj ihl
        unfold wX9_addsAll_L12
        rw [nI_add]
        refine y_isLetter hT2 (by omega) ?_
        rw [decide_eq_true (show fr + j < n by omega), hL j hj]
        refine br_f (by decide) ?_
        rw [nI_add1]; exact ihl
  exact ⟨_, key n 0 S M (by omega) (by omega) hv hR hO FY.rf hy hno⟩
theorem addW_grow {c : Nat → Nat} {m : Nat} (h5 : S 5 = nI (sN S)) (hN : sN S ≤ 20) (e : addW S c m = some T) : (T 5 = nI (sN T) ∧ sN T ≤ 20) ∧ (T = S ∨ sN S < sN T) := by
  unfold addW at e
  split at e
  · cases e; exact ⟨⟨h5, hN⟩, Or.inl rfl⟩
  · split at e
    · cases e
    · rename_i h20
      have eN := appW_N (c := c) (n := m) h5 hN
      cases e
      exact ⟨⟨by rw [eN, appW_5, h5, nI_add1], by omega⟩, Or.inr (by omega)⟩
theorem goC_grow : ∀ d p fr (S T : gR), S 5 = nI (sN S) → sN S ≤ 20 → goC t d p fr S = some T → (T 5 = nI (sN T) ∧ sN T ≤ 20) ∧ (T = S ∨ sN S < sN T) := by
  intro d
  induction d with
  | zero => intro p fr S T h5 hN e; exact addW_grow h5 hN e
  | succ d ih =>
    intro p fr S T h5 hN e
    have e' : (if t p = 44 then (match addW S (fun j => lt t (fr + j)) (p - fr) with | none => none | some S' => goC t d (p + 1) (p + 1) S') else goC t d (p + 1) fr S) = some T := e
    by_cases h44 : t p = 44
    · rw [if_pos h44] at e'
      cases ha : addW S (fun j => lt t (fr + j)) (p - fr) with
      | none => rw [ha] at e'; cases e'
      | some S' =>
        rw [ha] at e'
        obtain ⟨⟨g1, g2⟩, g3⟩ := addW_grow h5 hN ha
        obtain ⟨q1, q2⟩ := ih (p + 1) (p + 1) S' T g1 g2 e'
        refine ⟨q1, ?_⟩
        rcases g3 with g3 | g3
        · rw [g3] at q2; exact q2
        · rcases q2 with q2 | q2
          · rw [q2]; exact Or.inr g3
          · exact Or.inr (by omega)
    · rw [if_neg h44] at e'
      exact ih (p + 1) fr S T h5 hN e'
theorem y_add_bad {K : Int32 → gW → Prop} {f : Nat} (hY : YR M S sn Sn h Hs t n) (hf : fltW t n 0 0 = some f) (hk : K (-100 - nI f) M) : wX9_addWords M K := by
  refine y_faultW hY.2.2.2 (fun x e => ?_) (fun e => by rw [hf] at e; cases e)
  rw [hf] at e
  cases e
  have := fltW_le n 0 0 hf
  have := hY.2.2.2.2.1
  exact br_f (nI_ne_neg (by omega) (by decide)) hk
theorem y_add {K : Int32 → gW → Prop} (hY : YR M S sn Sn h Hs t n) (hO : Ok S) (hf : fltW t n 0 0 = none) (hfull : ∀ M', goC t n 0 0 S = none → YR M' S sn Sn h Hs t n → K (-3) M') (hno : ∀ T M', goC t n 0 0 S = some T → T 5 - S 5 = 0 → YR M' S sn Sn h Hs t n → K (-5) M') (hk : ∀ T M', goC t n 0 0 S = some T → ¬ T 5 - S 5 = 0 → OkL T → YR M' T sn Sn (pushN h) (pushH h Hs S) t n → K (T 5 - S 5) M') : wX9_addWords M K := by
  refine y_faultW hY.2.2.2 (fun x e => by rw [hf] at e; cases e) (fun _ => br_t rfl ?_)
  refine y_remember hY (fun M1 hY1 h11 hF1 => ?_)
  have nz : ∀ z : False, False := fun z => z
  refine y_addsAll hY1.1 hO.l hY1.2.2.2 hf (fun T M2 hg hOT hR2 hF2 => br_f (by decide) ?_) (fun M2 hg hF2 => br_t rfl ?_)
  · have h12 := h11.fr hF2 (by omega)
    have hZ2 := hY1.2.fr hF2 (by omega) (by omega) (by omega) nz nz nz
    refine ⟨pk_in 5 1730 (by omega), pk_in 5 1730 (by omega), fun y ey => ?_⟩
    rw [show (5 : Int32).toNatClampNeg = 5 from rfl, hR2 5 (by omega), h12 5 (by omega)] at ey
    subst ey
    refine ⟨fun z => hno T M2 hg z ?_, fun z => y_acted hR2 hZ2 h12 (fun M3 hY3 hF3 => hk T M3 hg z hOT hY3)⟩
    obtain ⟨⟨g1, g2⟩, g3⟩ := goC_grow n 0 0 S T hO.2.1.1 hO.2.1.2 hg
    rcases g3 with g3 | g3
    · rw [g3] at hR2; exact ⟨hR2, hZ2⟩
    · exfalso
      have es : nI (sN T) - nI (sN S) = nI (sN T - sN S) := pk_sub (by omega)
      rw [g1, hO.2.1.1, es] at z
      exact nI_ne0 (by omega) (by omega) z
  · refine y_copy (a := 1) (b := 0) (by decide) rfl rfl (h11.fr hF2 (by omega)) (fun M3 hR3 hF3 => hfull M3 hg ⟨hR3, (hY1.2.fr hF2 (by omega) (by omega) (by omega) nz nz nz).fr hF3 (by omega) (by omega) (by omega) nz nz nz⟩)
theorem y_rm_bad {K : Int32 → gW → Prop} {a : Int32} (hY : YR M S sn Sn h Hs t n) (hO : Ok S) (ha : a < 0 ∨ nI (sN S) ≤ a) (hk : K (-1) M) : wX9_removeWord M a K := by
  refine y_isWord hY.1 hO.l (fun w hw e => ?_) (fun _ => br_t rfl hk)
  subst e
  exact absurd ha (fun z => z.elim (nI_pos (by have := hO.2.1.2; omega)) (nI_ge hw (by have := hO.2.1.2; omega)))
theorem y_rm {K : Int32 → gW → Prop} {w : Nat} (hY : YR M S sn Sn h Hs t n) (hO : Ok S) (hw : w < sN S) (hk : ∀ M', YR M' (rmW S w) sn Sn (pushN h) (pushH h Hs S) t n → K (S 5 - 1) M') : wX9_removeWord M (nI w) K := by
  have hN := hO.2.1.2
  have nz : ∀ z : False, False := fun z => z
  refine y_isWord hY.1 hO.l (fun _ _ _ => br_f (by decide) ?_) (fun z => absurd z (fun z => z.elim (nI_pos (by omega)) (nI_ge hw (by omega))))
  refine y_remember hY (fun M1 hY1 h11 hF1 => ⟨pk_in 5 1730 (by omega), pk_in 5 1730 (by omega), fun M2 e2 => ?_⟩)
  rw [show (5 : Int32).toNatClampNeg = 5 from rfl] at e2
  have r2 := hY1.1.up e2
  rw [hY1.1 5 (by omega)] at r2
  have hF2 : FY k0 no M1 M2 := FY.rf.st e2 rfl
  have e5 : S 5 - (1 : Int32) = nI (sN S - 1) := by rw [hO.2.1.1]; exact pk_sub (b := 1) (by omega)
  have em : (1410 : Int32) + (16 : Int32) * nI w = nI (1410 + 16 * w) := by rw [show (16 : Int32) * nI w = nI (16 * w) from pk_mul 16 w]; exact nI_add 1410 _
  have em2 : (1410 : Int32) + (16 : Int32) * nI (sN S - 1) = nI (1410 + 16 * (sN S - 1)) := by rw [show (16 : Int32) * nI (sN S - 1) = nI (16 * (sN S - 1)) from pk_mul 16 _]; exact nI_add 1410 _
  rw [em]
  refine ⟨_, p_loop0 (fun f k => ∀ M3, RW M3 (fun i => if i = 5 then S 5 - 1 else if 1410 + 16 * w ≤ i ∧ i < 1410 + 16 * w + k then S (i + 16) else S i) → FY k0 no M1 M3 → wX9_removeWord_L33 (fun M18 x2_19 => ((vp_in (5 : Int32) 1730) ∧ (wX9_acted M18 (M18 22 0 (5 : Int32).toNatClampNeg) (fun r22 M21 => (K r22 M21))))) f M3 (nI (1410 + 16 * w + k))) (16 * (sN S - 1 - w)) ?_ ?_ M2 (fun i hi => ?_) hF2⟩
  · intro f M3 r3 hF3
    have v5 : M3 22 0 (5 : Int32).toNatClampNeg = nI (sN S - 1) := by rw [show (5 : Int32).toNatClampNeg = 5 from rfl, r3 5 (by omega)]; dsimp only; rw [if_pos rfl, e5]
    refine ⟨pk_in 5 1730 (by omega), br_t ?_ ⟨pk_in 5 1730 (by omega), ?_⟩⟩
    · rw [v5, em2]; exact nI_le (by omega) (by omega)
    · rw [v5, ← e5]
      refine y_acted (T := rmW S w) (S := S) (fun i hi => ?_) (hY1.2.fr hF3 (by omega) (by omega) (by omega) nz nz nz) (h11.fr hF3 (by omega)) (fun M4 hY4 hF4 => hk M4 hY4)
      rw [r3 i hi]; dsimp only
      unfold rmW
      by_cases z1 : i = 5
      · rw [if_pos z1, if_pos z1]
      · rw [if_neg z1, if_neg z1]
        by_cases z2 : 1410 + 16 * w ≤ i ∧ i < 1410 + 16 * (sN S - 1)
        · rw [if_pos z2, if_pos (by omega)]
        · rw [if_neg z2, if_neg (by omega)]
  · intro f k hki ih M3 r3 hF3
    have v5 : M3 22 0 (5 : Int32).toNatClampNeg = nI (sN S - 1) := by rw [show (5 : Int32).toNatClampNeg = 5 from rfl, r3 5 (by omega)]; dsimp only; rw [if_pos rfl, e5]
    have e16 : nI (1410 + 16 * w + k) + (16 : Int32) = nI (1410 + 16 * w + k + 16) := nI_add _ 16
    refine ⟨pk_in 5 1730 (by omega), br_f ?_ ?_⟩
    · rw [v5, em2]; exact nI_ge (by omega) (by omega)
    · rw [e16]
      refine ⟨pk_in (1410 + 16 * w + k + 16) 1730 (by omega), pk_in (1410 + 16 * w + k) 1730 (by omega), fun M4 e4 => ?_⟩
      rw [nI_clamp (by omega), nI_clamp (by omega), r3 _ (by omega)] at e4
      dsimp only at e4
      rw [if_neg (by omega), if_neg (by omega)] at e4
      have r4 := r3.up e4
      rw [nI_add1]
      refine ih M4 (fun i hi => ?_) (hF3.st e4 rfl)
      rw [r4 i hi, upd_at]; dsimp only
      by_cases z0 : i = 1410 + 16 * w + k
      · rw [if_pos z0, if_neg (by omega), if_pos (by omega), z0]
      · rw [if_neg z0]
        by_cases z1 : i = 5
        · rw [if_pos z1, if_pos z1]
        · rw [if_neg z1, if_neg z1]
          by_cases z2 : 1410 + 16 * w ≤ i ∧ i < 1410 + 16 * w + k
          · rw [if_pos z2, if_pos (by omega)]
          · rw [if_neg z2, if_neg (by omega)]
  · rw [r2 i hi, upd_at]; dsimp only
    by_cases z1 : i = 5
    · rw [if_pos z1, if_pos z1]
    · rw [if_neg z1, if_neg z1, if_neg (by omega)]
end YL
