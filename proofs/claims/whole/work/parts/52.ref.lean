/-! ===== LAYER 2: the reference: what it keeps ===== -/
/-- the array k holds the row S -/
def RK (M : gW) (k : Nat) (S : gR) : Prop := ∀ i, i < 1730 → M 22 k i = S i
def HY (M : gW) (h : Nat) (Hs : Nat → gR) : Prop := M 21 0 4 = nI h ∧ h ≤ 4 ∧ ∀ j, j < h → ∀ k, k < 1730 → M 22 3 (1730 * j + k) = Hs j k
def TY (M : gW) (t : Nat → Int32) (n : Nat) : Prop := M 21 0 14 = nI n ∧ n ≤ 60 ∧ ∀ i, i < n → M 22 9 i = t i
def ZR (M : gW) (sn : Bool) (Sn : gR) (h : Nat) (Hs : Nat → gR) (t : Nat → Int32) (n : Nat) : Prop := (M 21 0 6 = b2 sn ∧ (sn = true → RK M 4 Sn)) ∧ HY M h Hs ∧ TY M t n
/-- the reference holds: state S, snapshot (sn, Sn), history (h, Hs), text (t, n) -/
def YR (M : gW) (S : gR) (sn : Bool) (Sn : gR) (h : Nat) (Hs : Nat → gR) (t : Nat → Int32) (n : Nat) : Prop := RW M S ∧ ZR M sn Sn h Hs t n
section YR3
variable {M M' : gW} {S T Sn : gR} {sn : Bool} {h n : Nat} {Hs : Nat → gR} {t : Nat → Int32} {ks js : Nat → Prop} {ws : List Nat}
theorem RK.fr {k : Nat} (hR : RK M k S) (hF : FY ks js M M') (hk : ¬ ks k) : RK M' k S := fun i hi => by rw [hF.1 k hk]; exact hR i hi
theorem HY.fr (hH : HY M h Hs) (hF : FY ks js M M') (h3 : ¬ ks 3) (h4 : ¬ js 4) : HY M' h Hs := by unfold HY at hH ⊢; rw [hF.1 3 h3, hF.2 4 h4]; exact hH
theorem TY.fr (hH : TY M t n) (hF : FY ks js M M') (h3 : ¬ ks 9) (h4 : ¬ js 14) : TY M' t n := by unfold TY at hH ⊢; rw [hF.1 9 h3, hF.2 14 h4]; exact hH
theorem ZR.fr (hZ : ZR M sn Sn h Hs t n) (hF : FY ks js M M') (h3 : ¬ ks 3) (h4 : ¬ ks 4) (h9 : ¬ ks 9) (j4 : ¬ js 4) (j6 : ¬ js 6) (j14 : ¬ js 14) : ZR M' sn Sn h Hs t n :=
  ⟨⟨by rw [hF.2 6 j6]; exact hZ.1.1, fun e => (hZ.1.2 e).fr hF h4⟩, hZ.2.1.fr hF h3 j4, hZ.2.2.fr hF h9 j14⟩
theorem YR.fr (hY : YR M S sn Sn h Hs t n) (hF : FY ks js M M') (h0 : ¬ ks 0) (h3 : ¬ ks 3) (h4 : ¬ ks 4) (h9 : ¬ ks 9) (j4 : ¬ js 4) (j6 : ¬ js 6) (j14 : ¬ js 14) : YR M' S sn Sn h Hs t n :=
  ⟨hY.1.fr hF h0, hY.2.fr hF h3 h4 h9 j4 j6 j14⟩
theorem y_copy {K : gW → Prop} {a b : Nat} (hne : a ≠ b) (ea : gRl a = 1730) (eb : gRl b = 1730) (hR : RK M a S) (hk : ∀ M', RK M' b S → FY (fun k => k = b) no M M' → K M') : wX9_copy M a b K := by
  refine ⟨_, p_loop0 (fun f i => ∀ M2, (∀ j, j < i → M2 22 b j = S j) → FY (fun k => k = b) no M M2 → wX9_copy_L2 a b (fun M9 x2_10 => (K M9)) f M2 (nI i)) 1730 ?_ ?_ M (fun j hj => absurd hj (by omega)) FY.rf⟩
  · intro f M2 hz hF
    exact br_t (nI_le (a := 1730) (b := 1730) (by omega) (by omega)) (hk M2 hz hF)
  · intro f i hi ih M2 hz hF
    refine br_f (nI_ge (a := i) (b := 1730) hi (by omega)) ?_
    rw [ea, eb]
    refine ⟨pk_in i 1730 hi, pk_in i 1730 hi, fun M4 e4 => ?_⟩
    rw [nI_clamp (by omega), hF.1 a hne, hR i hi] at e4
    rw [nI_add1]
    refine ih M4 (fun j hj => ?_) (hF.st e4 rfl)
    rw [e4, gU_same, upd_at]
    by_cases hji : j = i
    · rw [if_pos hji, hji]
    · rw [if_neg hji]; exact hz j (by omega)
theorem y_remember {K : gW → Prop} (hY : YR M S sn Sn h Hs t n) (hk : ∀ M', YR M' S sn Sn h Hs t n → RK M' 1 S → FY (fun k => k = 1) no M M' → K M') : wX9_remember M K :=
  y_copy (a := 0) (b := 1) (by decide) rfl rfl hY.1 (fun M1 h1 hF => hk M1 (hY.fr hF (by omega) (by omega) (by omega) (by omega) (fun z => z) (fun z => z) (fun z => z)) h1 hF)
theorem y_acted {K : Int32 → gW → Prop} {x : Int32} (hR : RW M T) (hZ : ZR M sn Sn h Hs t n) (h1 : RK M 1 S) (hk : ∀ M', YR M' T sn Sn (pushN h) (pushH h Hs S) t n → FY (fun k => k = 3) (fun j => j = 4) M M' → K x M') : wX9_acted M x K := by
  obtain ⟨zs, ⟨z4, hh4, zh⟩, zt⟩ := hZ
  -- the place h' < 4 is free, and the states before it are Hs'
  have fin : ∀ h' (Hs' : Nat → gR) M2, h' < 4 → pushN h = h' + 1 → (∀ j, j ≤ h' → pushH h Hs S j = if j = h' then S else Hs' j) → M2 21 0 4 = nI h' → (∀ j, j < h' → ∀ k, k < 1730 → M2 22 3 (1730 * j + k) = Hs' j k) → FY (fun k => k = 3) (fun j => j = 4) M M2 → (∃ n29 : Nat, wX9_acted_L51 (fun M25 x2_26 => (∀ M27 : gW, M27 = gU M25 21 0 (upd (M25 21 0) 4 ((M25 21 0 4) + (1 : Int32))) → (K x M27))) n29 M2 (0 : Int32)) := by
    intro h' Hs' M2 hlt ep eH e4 eh hF2
    refine ⟨_, p_loop0 (fun f i => ∀ M3, M3 21 0 4 = nI h' → (∀ j, j < h' → ∀ k, k < 1730 → M3 22 3 (1730 * j + k) = Hs' j k) → (∀ k, k < i → M3 22 3 (1730 * h' + k) = S k) → FY (fun k => k = 3) (fun j => j = 4) M M3 → wX9_acted_L51 (fun M25 x2_26 => (∀ M27 : gW, M27 = gU M25 21 0 (upd (M25 21 0) 4 ((M25 21 0 4) + (1 : Int32))) → (K x M27))) f M3 (nI i)) 1730 ?_ ?_ M2 e4 eh (fun k hk => absurd hk (by omega)) hF2⟩
    · intro f M3 q4 qh qS hF3
      refine br_t (nI_le (a := 1730) (b := 1730) (by omega) (by omega)) (fun M5 e5 => ?_)
      have hF5 : FY (fun k => k = 3) (fun j => j = 4) M M5 := hF3.sf e5 rfl
      refine hk M5 ⟨hR.fr hF5 (by omega), ⟨by rw [hF5.2 6 (by omega)]; exact zs.1, fun e => (zs.2 e).fr hF5 (by omega)⟩, ⟨?_, by omega, fun j hj k hk' => ?_⟩, zt.fr hF5 (by omega) (by omega)⟩ hF5
      · rw [e5, gU_same, upd_at, if_pos rfl, q4, ep, nI_add1]
      · rw [e5, gU_o (by decide), eH j (by omega)]
        by_cases hj' : j = h'
        · rw [if_pos hj', hj']; exact qS k hk'
        · rw [if_neg hj']; exact qh j (by omega) k hk'
    · intro f i hi ih M3 q4 qh qS hF3
      have em : (1730 : Int32) * nI h' = nI (1730 * h') := pk_mul 1730 h'
      refine br_f (nI_ge (a := i) (b := 1730) hi (by omega)) ?_
      rw [q4, em, nI_add]
      refine ⟨pk_in i 1730 hi, pk_in (1730 * h' + i) 6920 (by omega), fun M4 e4 => ?_⟩
      rw [nI_clamp (by omega), nI_clamp (by omega), hF3.1 1 (by omega), h1 i hi] at e4
      rw [nI_add1]
      refine ih M4 (by rw [e4, gU_o (by decide)]; exact q4) (fun j hj k hk' => ?_) (fun k hk' => ?_) (hF3.st e4 rfl)
      · rw [e4, gU_same, upd_at, if_neg (by omega)]; exact qh j hj k hk'
      · rw [e4, gU_same, upd_at]
        by_cases hki : k = i
        · rw [hki, if_pos rfl]
        · rw [if_neg (by omega)]; exact qS k (by omega)
  unfold wX9_acted
  rw [z4]
  refine pk_eq h 4 (fun z => ?_) (fun z => ?_)
  · subst z
    refine ⟨_, p_loop0 (fun f i => ∀ M3, M3 21 0 4 = nI 4 → (∀ k, k < 6920 → M3 22 3 k = M 22 3 (if k < i then k + 1730 else k)) → FY (fun k => k = 3) (fun j => j = 4) M M3 → wX9_acted_L10 (fun M11 x2_12 => (∀ M13 : gW, M13 = gU M11 21 0 (upd (M11 21 0) 4 ((M11 21 0 4) - (1 : Int32))) → (∃ n29 : Nat, wX9_acted_L51 (fun M25 x2_26 => (∀ M27 : gW, M27 = gU M25 21 0 (upd (M25 21 0) 4 ((M25 21 0 4) + (1 : Int32))) → (K x M27))) n29 M13 (0 : Int32)))) f M3 (nI i)) 5190 ?_ ?_ M z4 (fun k hk => by rw [if_neg (by omega)]) FY.rf⟩
    · intro f M3 q4 qh hF3
      refine br_t (nI_le (a := 5190) (b := 5190) (by omega) (by omega)) (fun M5 e5 => ?_)
      refine fin 3 (fun j => Hs (j + 1)) M5 (by omega) rfl (fun j hj => ?_) ?_ (fun j hj k hk' => ?_) (hF3.sf e5 rfl)
      · unfold pushH; rw [if_pos rfl]
      · rw [e5, gU_same, upd_at, if_pos rfl, q4]; rfl
      · rw [e5, gU_o (by decide), qh _ (by omega), if_pos (by omega)]
        have := zh (j + 1) (by omega) k hk'
        rw [← this]; congr 1; omega
    · intro f i hi ih M3 q4 qh hF3
      have ea : nI i + (1730 : Int32) = nI (i + 1730) := nI_add i 1730
      refine br_f (nI_ge (a := i) (b := 5190) hi (by omega)) ?_
      rw [ea]
      refine ⟨pk_in (i + 1730) 6920 (by omega), pk_in i 6920 (by omega), fun M4 e4 => ?_⟩
      rw [nI_clamp (by omega), nI_clamp (by omega), qh (i + 1730) (by omega), if_neg (by omega)] at e4
      rw [nI_add1]
      refine ih M4 (by rw [e4, gU_o (by decide)]; exact q4) (fun k hk' => ?_) (hF3.st e4 rfl)
      rw [e4, gU_same, upd_at]
      by_cases hki : k = i
      · rw [if_pos hki, if_pos (by omega), hki]
      · rw [if_neg hki, qh k hk']
        by_cases hlt : k < i
        · rw [if_pos hlt, if_pos (by omega)]
        · rw [if_neg hlt, if_neg (by omega)]
  · refine fin h Hs M (by omega) (by unfold pushN; rw [if_neg z]) (fun j hj => ?_) z4 zh FY.rf
    unfold pushH; rw [if_neg z]
/-! the text -/
theorem y_isLetter {K : Int32 → gW → Prop} {i : Nat} (hT : TY M t n) (hi : i < 2 ^ 31) (h : K (b2 (decide (i < n) && isL (t i))) M) : wX9_isLetter M (nI i) K := by
  unfold wX9_isLetter
  rw [hT.1]
  have hn := hT.2.1
  refine pk_le n i (fun z => ?_) (fun z => ⟨pk_in i 60 (by omega), ?_⟩)
  · rw [decide_eq_false (by omega), Bool.false_and] at h; exact h
  · rw [decide_eq_true (by omega), Bool.true_and] at h
    rw [nI_clamp (by omega), hT.2.2 i z]
    unfold isL at h
    refine y_in (lo := 97) (hi := 122) rfl rfl (fun z1 z2 => br_f (by decide) ?_) (fun z1 => br_t rfl ?_)
    · rw [decide_eq_true z1, decide_eq_true z2] at h; exact h
    · rcases z1 with z1 | z1
      · rw [decide_eq_false (fun w => w z1), Bool.false_and] at h; exact h
      · rw [decide_eq_false (fun w : ¬ 122 < t i => w z1), Bool.and_false] at h; exact h
theorem y_isThere {K : Int32 → gW → Prop} {i : Nat} {a : Int32} (hT : TY M t n) (hi : i < 2 ^ 31) (h : K (b2 (decide (i < n ∧ t i = a))) M) : wX9_isThere M (nI i) a K := by
  unfold wX9_isThere
  rw [hT.1]
  have hn := hT.2.1
  refine pk_le n i (fun z => ?_) (fun z => ⟨pk_in i 60 (by omega), ?_⟩)
  · rw [decide_eq_false (by omega)] at h; exact h
  · rw [nI_clamp (by omega), hT.2.2 i z]
    refine ⟨fun y => ?_, fun y => ?_⟩
    · rw [decide_eq_true ⟨z, y⟩] at h; exact h
    · rw [decide_eq_false (fun w => y w.2)] at h; exact h
theorem y_type_full {K : Int32 → gW → Prop} {a : Int32} (hY : YR M S sn Sn h Hs t n) (hn : n = 60) (hk : K (-3) M) : wX9_type M a K :=
  br_t (by rw [hY.2.2.2.1, hn]; rfl) hk
theorem y_type {K : Int32 → gW → Prop} {a : Int32} (hY : YR M S sn Sn h Hs t n) (hn : n < 60) (hk : ∀ M', YR M' S sn Sn h Hs (upd t n a) (n + 1) → K (nI (n + 1)) M') : wX9_type M a K := by
  obtain ⟨yr, ys, yh, e1, e2, e3⟩ := hY
  unfold wX9_type
  rw [e1]
  refine ⟨fun z => absurd ((nI_eq (a := n) (b := 60) (by omega) (by omega)).mp z) (by omega), fun _ => ⟨pk_in n 60 hn, fun M3 q3 M5 q5 => ?_⟩⟩
  rw [nI_clamp (by omega)] at q3
  have hF : FY (fun k => k = 9) (fun j => j = 14) M M5 := ((FY.rf (ks := fun k => k = 9) (js := fun j => j = 14)).st q3 rfl).sf q5 rfl
  have v : M5 21 0 14 = nI (n + 1) := by rw [q5, gU_same, upd_at, if_pos rfl, q3, gU_o (by decide), e1, nI_add1]
  rw [v]
  refine hk M5 ⟨yr.fr hF (by omega), ⟨by rw [hF.2 6 (by omega)]; exact ys.1, fun e => (ys.2 e).fr hF (by omega)⟩, yh.fr hF (by omega) (by omega), v, by omega, fun i hi => ?_⟩
  rw [q5, gU_o (by decide), q3, gU_same, upd_at, upd_at]
  by_cases hin : i = n
  · rw [if_pos hin, if_pos hin]
  · rw [if_neg hin, if_neg hin]; exact e3 i (by omega)
theorem y_clear {K : Int32 → gW → Prop} (hY : YR M S sn Sn h Hs t n) (hk : ∀ M', YR M' S sn Sn h Hs t 0 → K (nI n) M') : wX9_clearText M K := by
  obtain ⟨yr, ys, yh, e1, e2, e3⟩ := hY
  intro M1 q1
  rw [e1]
  have hF : FY no (fun j => j = 14) M M1 := FY.rf.sf q1 rfl
  exact hk M1 ⟨yr.fr hF (fun z => z), ⟨by rw [hF.2 6 (by omega)]; exact ys.1, fun e => (ys.2 e).fr hF (fun z => z)⟩, yh.fr hF (fun z => z) (by omega), by rw [q1, gU_same, upd_at, if_pos rfl]; rfl, by omega, fun i hi => absurd hi (by omega)⟩
/-! acts -/
theorem y_pass_bad {K : Int32 → gW → Prop} {a : Int32} (ha : a < 1 ∨ ¬ a ≤ 20) (hk : K (-2) M) : wX9_pass M a K := by
  refine y_in (lo := 1) (hi := 20) rfl rfl (fun z1 z2 => ?_) (fun _ => br_t rfl hk)
  rcases ha with z | z
  · exact absurd z z1
  · exact absurd (Int32.not_lt.mp z2) z
theorem y_pass_full {K : Int32 → gW → Prop} {a : Int32} (hY : YR M S sn Sn h Hs t n) (h1 : ¬ a < 1) (h20 : a ≤ 20) (hf : ¬ S 1 + a ≤ 999) (hk : K (-3) M) : wX9_pass M a K := by
  refine y_in (lo := 1) (hi := 20) rfl rfl (fun z1 z2 => br_f (by decide) ⟨pk_in 1 1730 (by omega), br_f ?_ hk⟩) (fun z => ?_)
  · rw [show (1 : Int32).toNatClampNeg = 1 from rfl, hY.1 1 (by omega)]; exact hf
  · rcases z with z | z
    · exact absurd z h1
    · exact absurd h20 (Int32.not_le.mpr z)
theorem y_pass {K : Int32 → gW → Prop} {a : Int32} (hY : YR M S sn Sn h Hs t n) (h1 : ¬ a < 1) (h20 : a ≤ 20) (hf : S 1 + a ≤ 999) (hk : ∀ M', YR M' (fadS S a) sn Sn (pushN h) (pushH h Hs S) t n → K (nI (sumTo (fdN S a) 702)) M') : wX9_pass M a K := by
  refine y_in (lo := 1) (hi := 20) rfl rfl (fun z1 z2 => br_f (by decide) ⟨pk_in 1 1730 (by omega), br_t ?_ ?_⟩) (fun z => ?_)
  · rw [show (1 : Int32).toNatClampNeg = 1 from rfl, hY.1 1 (by omega)]; exact hf
  · refine y_remember hY (fun M1 hY1 h11 hF1 => ⟨pk_in 1 1730 (by omega), pk_in 1 1730 (by omega), fun M2 e2 => ?_⟩)
    rw [show (1 : Int32).toNatClampNeg = 1 from rfl] at e2
    have r2 := hY1.1.up e2
    rw [hY1.1 1 (by omega)] at r2
    have hF2 : FY k0 no M1 M2 := FY.rf.st e2 rfl
    refine ⟨_, p_loop0 (fun f i => ∀ M3, RW M3 (fun x => if (6 ≤ x ∧ x < 6 + i) ∨ (708 ≤ x ∧ x < 708 + i) then S x >>> (a &&& 31) else upd S 1 (S 1 + a) x) → FY k0 no M1 M3 → wX9_pass_L50 a (fun M28 x2_29 x3_30 => (wX9_acted M28 x2_29 (fun r32 M31 => (K r32 M31)))) f M3 (nI (sumTo (fdN S a) i)) (nI i)) 702 ?_ ?_ M2 (fun i hi => by dsimp only; rw [if_neg (by omega)]; exact r2 i hi) hF2⟩
    · intro f M3 r3 hF3
      refine br_t (nI_le (a := 702) (b := 702) (by omega) (by omega)) ?_
      refine y_acted (T := fadS S a) (S := S) (fun i hi => ?_) (hY1.2.fr hF3 (by omega) (by omega) (by omega) (fun z => z) (fun z => z) (fun z => z)) (h11.fr hF3 (by omega)) (fun M4 hY4 hF4 => hk M4 hY4)
      rw [r3 i hi]; dsimp only
      unfold fadS fdP
      rw [upd_at, upd_at]
      by_cases e1 : i = 1
      · rw [if_neg (by omega), if_pos e1, if_pos e1]
      · rw [if_neg e1, if_neg e1]
        by_cases e2 : 6 ≤ i ∧ i < 1410
        · rw [if_pos e2, if_pos (by omega)]
        · rw [if_neg e2, if_neg (by omega)]
    · intro f i hi ih M3 r3 hF3
      have ea : (6 : Int32) + nI i = nI (6 + i) := nI_add 6 i
      have eb : (708 : Int32) + nI i = nI (708 + i) := nI_add 708 i
      have i1 : vp_in (nI (6 + i)) 1730 := pk_in (6 + i) 1730 (by omega)
      have i2 : vp_in (nI (708 + i)) 1730 := pk_in (708 + i) 1730 (by omega)
      have c1 : (nI (6 + i)).toNatClampNeg = 6 + i := nI_clamp (by omega)
      have c2 : (nI (708 + i)).toNatClampNeg = 708 + i := nI_clamp (by omega)
      refine br_f (nI_ge (a := i) (b := 702) hi (by omega)) ?_
      rw [ea, eb, c1, c2]
      refine ⟨i1, i1, fun M4 e4 => ⟨i2, i2, fun M5 e5 => ⟨i1, ?_⟩⟩⟩
      have v3 : M3 22 0 (6 + i) = S (6 + i) := by rw [r3 _ (by omega)]; dsimp only; rw [if_neg (by omega), upd_at, if_neg (by omega)]
      have r4 := r3.up e4
      have v4 : M4 22 0 (708 + i) = S (708 + i) := by rw [r4 _ (by omega), upd_at, if_neg (by omega), if_neg (by omega), upd_at, if_neg (by omega)]
      have r5 := r4.up e5
      rw [v3] at r5
      rw [v4] at r5
      have w5 : M5 22 0 (6 + i) = S (6 + i) >>> (a &&& 31) := by rw [r5 _ (by omega), upd_at, if_neg (by omega), upd_at, if_pos rfl]
      have hF5 : FY k0 no M1 M5 := (hF3.st e4 rfl).st e5 rfl
      have q1 : M5 22 1 (6 + i) = S (6 + i) := by rw [hF5.1 1 (by omega)]; exact h11 _ (by omega)
      have r6 : RW M5 (fun x => if (6 ≤ x ∧ x < 6 + (i + 1)) ∨ (708 ≤ x ∧ x < 708 + (i + 1)) then S x >>> (a &&& 31) else upd S 1 (S 1 + a) x) := fun x hx => by
        rw [r5 x hx, upd_at, upd_at]; dsimp only
        by_cases x1 : x = 708 + i
        · rw [if_pos x1, if_pos (by omega), x1]
        · rw [if_neg x1]
          by_cases x2 : x = 6 + i
          · rw [if_pos x2, if_pos (by omega), x2]
          · rw [if_neg x2]
            by_cases x3 : (6 ≤ x ∧ x < 6 + i) ∨ (708 ≤ x ∧ x < 708 + i)
            · rw [if_pos x3, if_pos (by omega)]
            · rw [if_neg x3, if_neg (by omega)]
      have ih' := ih M5 r6 hF5
      simp only [sumTo] at ih'
      unfold fdN at ih'
      rw [w5, q1]
      refine ⟨fun z => ⟨i1, fun y => ?_, fun y => ?_⟩, fun z => ?_⟩
      · rw [if_pos y] at ih'
        rw [Int32.add_zero, nI_add1]; exact ih'
      · rw [if_neg y, if_pos z] at ih'
        rw [nI_add1, nI_add1]; exact ih'
      · rw [Int32.add_zero, nI_add1]
        rw [if_neg z, ite_self] at ih'; exact ih'
  · rcases z with z | z
    · exact absurd z h1
    · exact absurd h20 (Int32.not_le.mpr z)
theorem y_unt_bad {K : Int32 → gW → Prop} {a : Int32} (ha : a < 0 ∨ ¬ a ≤ 99) (hk : K (-2) M) : wX9_setUntried M a K := by
  refine y_in (lo := 0) (hi := 99) rfl rfl (fun z1 z2 => ?_) (fun _ => br_t rfl hk)
  rcases ha with z | z
  · exact absurd z z1
  · exact absurd (Int32.not_lt.mp z2) z
theorem y_unt_none {K : Int32 → gW → Prop} {a : Int32} (hY : YR M S sn Sn h Hs t n) (h0 : ¬ a < 0) (h99 : a ≤ 99) (e : a = S 0) (hk : K (-5) M) : wX9_setUntried M a K := by
  refine y_in (lo := 0) (hi := 99) rfl rfl (fun z1 z2 => br_f (by decide) ⟨pk_in 0 1730 (by omega), br_t ?_ hk⟩) (fun z => ?_)
  · rw [show (0 : Int32).toNatClampNeg = 0 from rfl, hY.1 0 (by omega)]; exact e.symm
  · rcases z with z | z
    · exact absurd z h0
    · exact absurd h99 (Int32.not_le.mpr z)
theorem y_unt {K : Int32 → gW → Prop} {a : Int32} (hY : YR M S sn Sn h Hs t n) (h0 : ¬ a < 0) (h99 : a ≤ 99) (e : ¬ a = S 0) (hk : ∀ M', YR M' (upd S 0 a) sn Sn (pushN h) (pushH h Hs S) t n → K (S 0) M') : wX9_setUntried M a K := by
  refine y_in (lo := 0) (hi := 99) rfl rfl (fun z1 z2 => br_f (by decide) ⟨pk_in 0 1730 (by omega), br_f ?_ ?_⟩) (fun z => ?_)
  · rw [show (0 : Int32).toNatClampNeg = 0 from rfl, hY.1 0 (by omega)]; exact fun y => e y.symm
  · refine y_remember hY (fun M1 hY1 h11 hF1 => ⟨pk_in 0 1730 (by omega), fun M2 e2 => ?_⟩)
    rw [show (0 : Int32).toNatClampNeg = 0 from rfl] at e2
    rw [show (0 : Int32).toNatClampNeg = 0 from rfl, hY.1 0 (by omega)]
    have hF2 : FY k0 no M1 M2 := FY.rf.st e2 rfl
    exact y_acted (hY1.1.up e2) (hY1.2.fr hF2 (by omega) (by omega) (by omega) (fun z => z) (fun z => z) (fun z => z)) (h11.fr hF2 (by omega)) (fun M4 hY4 hF4 => hk M4 hY4)
  · rcases z with z | z
    · exact absurd z h0
    · exact absurd h99 (Int32.not_le.mpr z)
theorem y_isLines {K : Int32 → gW → Prop} {a : Int32} (h1 : lnOk a → K 1 M) (h0 : ¬ lnOk a → K 0 M) : wX9_isLines M a K :=
  y_in (lo := 1) (hi := 10) rfl rfl (fun z1 z2 => ⟨Or.inr rfl, h1 ⟨z1, z2⟩⟩) (fun z => ⟨Or.inl rfl, h0 (fun w => z.elim w.1 w.2)⟩)
theorem y_do_bad {K : Int32 → gW → Prop} {a : Int32} (ha : ¬ lnOk a) (hk : K (-2) M) : wX9_doSheet M a K := y_isLines (fun z => absurd z ha) (fun _ => br_t rfl hk)
theorem y_do {K : Int32 → gW → Prop} {k : Nat} (hY : YR M S sn Sn h Hs t n) (hO : Ok S) (ha : lnOk (nI k)) (h10 : k ≤ 10) (hno : ∀ M', (shF S k).length = 0 → YR M' S sn Sn h Hs t n → K (-5) M') (hk : ∀ M', ¬ (shF S k).length = 0 → YR M' (prac S (shF S k)) sn Sn (pushN h) (pushH h Hs S) t n → K (nI (shF S k).length) M') : wX9_doSheet M (nI k) K := by
  refine y_isLines (fun _ => br_f (by decide) ?_) (fun z => absurd ha z)
  refine y_makesSheet hY.1 hO h10 (fun M1 hP1 hF1 => ?_)
  have hY1 := hY.fr hF1 (by omega) (by omega) (by omega) (by omega) (by omega) (by omega) (by omega)
  have hl := shF_len S k
  rw [hP1.1]
  refine pk_eq (shF S k).length 0 (fun z => hno M1 z hY1) (fun z => ?_)
  refine y_remember hY1 (fun M2 hY2 h12 hF2 => ?_)
  have hP2 := hP1.fr hF2 (by omega) (by omega) (by omega) (fun z => z)
  refine y_writesSheet hY2.1 hO hP2 (fun M3 hR3 hF3 => ?_)
  rw [hF3.2 11 (fun z => z), hP2.1]
  exact y_acted hR3 (hY2.2.fr hF3 (by omega) (by omega) (by omega) (fun z => z) (fun z => z) (fun z => z)) (h12.fr hF3 (by omega)) (fun M4 hY4 hF4 => hk M4 z hY4)
theorem y_undo {K : Int32 → gW → Prop} (hY : YR M S sn Sn h Hs t n) (h0 : h = 0 → K (-5) M) (hk : ∀ M', 0 < h → YR M' (Hs (h - 1)) sn Sn (h - 1) Hs t n → K (nI (h - 1)) M') : wX9_undo M K := by
  obtain ⟨yr, ys, ⟨y4, yl, yh⟩, yt⟩ := hY
  unfold wX9_undo
  rw [y4]
  refine pk_eq h 0 h0 (fun z => ?_)
  intro M2 e2
  have es : nI h - (1 : Int32) = nI (h - 1) := pk_sub (b := 1) (by omega)
  rw [es] at e2
  have hF2 : FY k0 (fun j => j = 4) M M2 := FY.rf.sf e2 rfl
  have v2 : M2 21 0 4 = nI (h - 1) := by rw [e2, gU_same, upd_at, if_pos rfl]
  refine ⟨_, p_loop0 (fun f i => ∀ M3, (∀ j, j < i → M3 22 0 j = Hs (h - 1) j) → M3 21 0 4 = nI (h - 1) → FY k0 (fun j => j = 4) M M3 → wX9_undo_L22 (fun M12 x1_13 => (K (M12 21 0 4) M12)) f M3 (nI i)) 1730 ?_ ?_ M2 (fun j hj => absurd hj (by omega)) v2 hF2⟩
  · intro f M3 hz v3 hF3
    refine br_t (nI_le (a := 1730) (b := 1730) (by omega) (by omega)) ?_
    dsimp only
    rw [v3]
    exact hk M3 (by omega) ⟨hz, ⟨by rw [hF3.2 6 (by omega)]; exact ys.1, fun e => (ys.2 e).fr hF3 (by omega)⟩, ⟨v3, by omega, fun j hj k hk' => by rw [hF3.1 3 (by omega)]; exact yh j (by omega) k hk'⟩, yt.fr hF3 (by omega) (by omega)⟩
  · intro f i hi ih M3 hz v3 hF3
    have em : (1730 : Int32) * nI (h - 1) = nI (1730 * (h - 1)) := pk_mul 1730 (h - 1)
    refine br_f (nI_ge (a := i) (b := 1730) hi (by omega)) ?_
    rw [v3, em, nI_add]
    refine ⟨pk_in (1730 * (h - 1) + i) 6920 (by omega), pk_in i 1730 hi, fun M4 e4 => ?_⟩
    rw [nI_clamp (by omega), nI_clamp (by omega), hF3.1 3 (by omega), yh (h - 1) (by omega) i hi] at e4
    rw [nI_add1]
    refine ih M4 (fun j hj => ?_) (by rw [e4, gU_o (by decide)]; exact v3) (hF3.st e4 rfl)
    rw [e4, gU_same, upd_at]
    by_cases hji : j = i
    · rw [if_pos hji, hji]
    · rw [if_neg hji]; exact hz j (by omega)
theorem y_keep {K : Int32 → gW → Prop} (hY : YR M S sn Sn h Hs t n) (hk : ∀ M', YR M' S true S h Hs t n → K (S 5) M') : wX9_keep M K := by
  refine y_copy (a := 0) (b := 4) (by decide) rfl rfl hY.1 (fun M1 h1 hF1 M2 e2 => ⟨pk_in 5 1730 (by omega), ?_⟩)
  have hF2 : FY (fun k => k = 4) (fun j => j = 6) M M2 := (hF1.mono (fun k z => z) (fun j z => z.elim)).sf e2 rfl
  have hR2 := hY.1.fr hF2 (by omega)
  rw [show (5 : Int32).toNatClampNeg = 5 from rfl, hR2 5 (by omega)]
  refine hk M2 ⟨hR2, ⟨by rw [e2, gU_same, upd_at, if_pos rfl]; rfl, fun _ i hi => by rw [e2, gU_o (by decide)]; exact h1 i hi⟩, hY.2.2.1.fr hF2 (by omega) (by omega), hY.2.2.2.fr hF2 (by omega) (by omega)⟩
theorem y_restore {K : Int32 → gW → Prop} (hY : YR M S sn Sn h Hs t n) (h0 : sn = false → K (-5) M) (hk : ∀ M', sn = true → YR M' Sn sn Sn (pushN h) (pushH h Hs S) t n → K (Sn 5) M') : wX9_restore M K := by
  unfold wX9_restore
  rw [hY.2.1.1]
  cases sn with
  | false => exact br_t rfl (h0 rfl)
  | true =>
    refine br_f (by decide) (y_remember hY (fun M1 hY1 h11 hF1 => ?_))
    refine y_copy (a := 4) (b := 0) (by decide) rfl rfl (hY1.2.1.2 rfl) (fun M2 hR2 hF2 => ⟨pk_in 5 1730 (by omega), ?_⟩)
    rw [show (5 : Int32).toNatClampNeg = 5 from rfl, hR2 5 (by omega)]
    exact y_acted hR2 (hY1.2.fr hF2 (by omega) (by omega) (by omega) (fun z => z) (fun z => z) (fun z => z)) (h11.fr hF2 (by omega)) (fun M4 hY4 hF4 => hk M4 rfl hY4)
end YR3
