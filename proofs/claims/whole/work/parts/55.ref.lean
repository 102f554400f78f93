/-! ===== LAYER 2: the reference: what is told ===== -/
theorem sumTo_front {g : Nat → Nat} : ∀ n, sumTo g (n + 1) = g 0 + sumTo (fun i => g (i + 1)) n
  | 0 => by simp [sumTo]
  | n + 1 => by
    have := sumTo_front (g := g) n
    simp only [sumTo] at this ⊢
    omega
/-- how many of the e parts from p on have need d -/
def cF (S : gR) (d : Nat) : Nat → Nat → Nat
  | 0, _ => 0
  | e + 1, p => (if nd S p = d then 1 else 0) + cF S d e (p + 1)
theorem cF_sum (S : gR) (d : Nat) : ∀ e p, cF S d e p = sumTo (fun i => if nd S (p + i) = d then 1 else 0) e
  | 0, _ => rfl
  | e + 1, p => by
    rw [sumTo_front]
    show (if nd S p = d then 1 else 0) + cF S d e (p + 1) = _
    rw [cF_sum S d e (p + 1)]
    have : sumTo (fun i => if nd S (p + 1 + i) = d then 1 else 0) e = sumTo (fun i => if nd S (p + (i + 1)) = d then 1 else 0) e := sumTo_congr e (fun k _ => by rw [show p + 1 + k = p + (k + 1) by omega])
    rw [this]; rfl
theorem nthF_none (S : gR) (d : Nat) : ∀ e p left, cF S d e p ≤ left → nthF S d e p left = none
  | 0, _, _, _ => rfl
  | e + 1, p, left, h => by
    have h' : (if nd S p = d then 1 else 0) + cF S d e (p + 1) ≤ left := h
    show (if nd S p = d then (if left = 0 then some p else nthF S d e (p + 1) (left - 1)) else nthF S d e (p + 1) left) = none
    by_cases z : nd S p = d
    · rw [if_pos z] at h' ⊢
      rw [if_neg (by omega)]; exact nthF_none S d e (p + 1) (left - 1) (by omega)
    · rw [if_neg z] at h' ⊢
      exact nthF_none S d e (p + 1) left (by omega)
theorem nthF_some (S : gR) (d : Nat) : ∀ e p left, left < cF S d e p → ∃ q, nthF S d e p left = some q
  | 0, _, left, h => absurd h (Nat.not_lt_zero _)
  | e + 1, p, left, h => by
    have h' : left < (if nd S p = d then 1 else 0) + cF S d e (p + 1) := h
    show ∃ q, (if nd S p = d then (if left = 0 then some p else nthF S d e (p + 1) (left - 1)) else nthF S d e (p + 1) left) = some q
    by_cases z : nd S p = d
    · rw [if_pos z] at h' ⊢
      by_cases y : left = 0
      · rw [if_pos y]; exact ⟨p, rfl⟩
      · rw [if_neg y]; exact nthF_some S d e (p + 1) (left - 1) (by omega)
    · rw [if_neg z] at h' ⊢
      exact nthF_some S d e (p + 1) left (by omega)
theorem nthF_ge {S : gR} {d : Nat} : ∀ e p left, nthF S d e p left = none → cF S d e p ≤ left := fun e p left h => by
  rcases Nat.lt_or_ge left (cF S d e p) with z | z
  · obtain ⟨q, hq⟩ := nthF_some S d e p left z
    rw [hq] at h; cases h
  · exact z
section YT
variable {M M' : gW} {S T Sn : gR} {sn : Bool} {h n : Nat} {Hs : Nat → gR} {t : Nat → Int32} {ks js : Nat → Prop} {K : Int32 → gW → Prop} {ws : List Nat}
theorem YR.f5 (hY : YR M S sn Sn h Hs t n) (hF : FY k5 j8 M M') : YR M' S sn Sn h Hs t n := hY.fr hF (by omega) (by omega) (by omega) (by omega) (by omega) (by omega) (by omega)
theorem YR.fS (hY : YR M S sn Sn h Hs t n) (hF : FY kS jS M M') : YR M' S sn Sn h Hs t n := hY.fr hF (by omega) (by omega) (by omega) (by omega) (by omega) (by omega) (by omega)
theorem y_told {p : Nat} {a : Int32} (hY : YR M S sn Sn h Hs t n) (hO : Ok S) (hp : p < 702) (hk : ∀ M', YR M' S sn Sn h Hs t n → K (told S p a) M') : wX9_ofPart M (nI p) a K := by
  have hkM := hk M hY
  unfold told at hk hkM
  have e1 : (708 : Int32) + nI p = nI (708 + p) := nI_add 708 p
  have e2 : (6 : Int32) + nI p = nI (6 + p) := nI_add 6 p
  refine ⟨fun z => ?_, fun z => ?_, fun z => ?_, fun z => ?_, fun z0 z1 z2 z3 => ?_⟩
  · rw [if_pos z] at hkM
    rw [e2, nI_clamp (by omega), hY.1 _ (by omega)]; exact ⟨pk_in (6 + p) 1730 (by omega), hkM⟩
  · rw [if_neg (by rw [z]; decide), if_pos z] at hkM
    rw [e1, nI_clamp (by omega), hY.1 _ (by omega)]; exact ⟨pk_in (708 + p) 1730 (by omega), hkM⟩
  · rw [if_neg (by rw [z]; decide), if_neg (by rw [z]; decide), if_pos z] at hkM; exact y_needOf hY.1 hO.1 hp hkM
  · rw [if_neg (by rw [z]; decide), if_neg (by rw [z]; decide), if_neg (by rw [z]; decide), if_pos z] at hk
    exact y_wordsWith hY.1 hO.l hp (fun M' hF => hk M' (hY.f5 hF))
  · rw [if_neg z0, if_neg z1, if_neg z2, if_neg z3] at hkM; exact hkM
theorem y_inL {x : Int32} (h1 : isL x = true → K 1 M) (h0 : isL x = false → K 0 M) : wX9_in M x.toInt64 97 122 K := by
  refine y_in (lo := 97) (hi := 122) rfl rfl (fun z1 z2 => h1 ?_) (fun z => h0 ?_)
  · unfold isL; rw [decide_eq_true z1, decide_eq_true z2]; rfl
  · unfold isL
    rcases z with z | z
    · rw [decide_eq_false (fun w => w z), Bool.false_and]
    · rw [decide_eq_false (fun w : ¬ 122 < x => w z), Bool.and_false]
theorem y_letter {x a : Int32} (hY : YR M S sn Sn h Hs t n) (hO : Ok S) (h1 : ∀ l M', isL x = true → l < 26 → x - 97 = nI l → YR M' S sn Sn h Hs t n → K (told S l a) M') (h0 : isL x = false → K (-1) M) : wX9_letter M x a K := by
  refine y_inL (fun hx => br_f (by decide) ?_) (fun hx => br_t rfl (h0 hx))
  obtain ⟨l, h26, -, e⟩ := isL_nI hx
  rw [e]
  exact y_told hY hO (by omega) (fun M' hY' => h1 l M' hx h26 e hY')
theorem y_join {x y a : Int32} (hY : YR M S sn Sn h Hs t n) (hO : Ok S) (h1 : ∀ l m M', isL x = true → isL y = true → l < 26 → m < 26 → x - 97 = nI l → y - 97 = nI m → YR M' S sn Sn h Hs t n → K (told S (jn l m) a) M') (h0 : ¬ (isL x = true ∧ isL y = true) → K (-1) M) : wX9_join M x y a K := by
  refine y_inL (fun hx => br_f (by decide) (y_inL (fun hy => br_f (by decide) ?_) (fun hy => br_t rfl (h0 (fun z => by rw [hy] at z; exact absurd z.2 (by decide)))))) (fun hx => br_t rfl (h0 (fun z => by rw [hx] at z; exact absurd z.1 (by decide))))
  obtain ⟨l, hl, -, el⟩ := isL_nI hx
  obtain ⟨m, hm, -, em⟩ := isL_nI hy
  rw [el, em]
  exact y_joinOf (y_told hY hO (jn_lt hl hm) (fun M' hY' => h1 l m M' hx hy hl hm el em hY'))
theorem y_word_bad {a b : Int32} (hY : YR M S sn Sn h Hs t n) (hO : Ok S) (ha : a < 0 ∨ nI (sN S) ≤ a) (hk : K (-1) M) : wX9_word M a b K := by
  refine y_isWord hY.1 hO.l (fun w hw e => ?_) (fun _ => br_t rfl hk)
  subst e
  exact absurd ha (fun z => z.elim (nI_pos (by have := hO.2.1.2; omega)) (nI_ge hw (by have := hO.2.1.2; omega)))
theorem y_word {w : Nat} {b : Int32} (hY : YR M S sn Sn h Hs t n) (hO : Ok S) (hw : w < sN S) (hk : ∀ M', YR M' S sn Sn h Hs t n → K (wrdR S w b) M') : wX9_word M (nI w) b K := by
  have hN := hO.2.1.2
  have hkM := hk M hY
  have ho := hO.2.2.1 w hw
  have hl := sPt_len ho
  have hlt := sPt_lt ho
  refine y_isWord hY.1 hO.l (fun _ _ _ => br_f (by decide) ?_) (fun z => absurd z (fun z => z.elim (nI_pos (by omega)) (nI_ge hw (by omega))))
  unfold wrdR at hkM hk
  refine ⟨fun z => ?_, fun z => ?_, fun z => ?_, fun z => ?_, fun z => ?_, fun z0 z1 z2 z3 z4 => ?_⟩
  · rw [if_pos z] at hkM; exact y_sizeOf hY.1 ho (by omega) hkM
  · rw [if_neg (by rw [z]; decide), if_pos z] at hk
    refine y_findsParts hY.1 ho (by omega) (fun M1 hP hF => ?_)
    have hY1 := hY.f5 hF
    have hk1 := hk M1 hY1
    refine ⟨_, p_loop0 (fun f i => wX9_needOfWord_L9 (fun M10 x2_11 x3_12 => (K x2_11 M10)) f M1 (nI (sumTo (fun i => nd S ((sPt S w).getD i 0)) i)) (nI i)) (sPt S w).length ?_ ?_⟩
    · intro f; exact br_t (by rw [hP.1]; exact nI_le (Nat.le_refl _) (by omega)) hk1
    · intro f i hi ih
      refine br_f (by rw [hP.1]; exact nI_ge hi (by omega)) ⟨pk_in i 29 (by omega), ?_⟩
      rw [nI_clamp (by omega), hP.2 i hi]
      refine y_needOf hY1.1 hO.1 (getD_lt hlt hi) ?_
      rw [nI_add, nI_add1]; exact ih
  · rw [if_neg (by rw [z]; decide), if_neg (by rw [z]; decide), if_pos z] at hk
    refine y_findsParts hY.1 ho (by omega) (fun M1 hP hF => ?_)
    have hk1 := hk M1 (hY.f5 hF)
    refine ⟨_, p_loop0 (fun f i => wX9_partsOf_L10 (0 : Int32) (fun M12 x3_13 x4_14 => (K x3_13 M12)) f M1 (nI i) (nI i)) (sPt S w).length ?_ ?_⟩
    · intro f; exact br_t (by rw [hP.1]; exact nI_le (Nat.le_refl _) (by omega)) hk1
    · intro f i hi ih
      refine br_f (by rw [hP.1]; exact nI_ge hi (by omega)) (br_t rfl ?_)
      rw [nI_add1]; exact ih
  · rw [if_neg (by rw [z]; decide), if_neg (by rw [z]; decide), if_neg (by rw [z]; decide), if_pos z] at hk
    refine y_findsParts hY.1 ho (by omega) (fun M1 hP hF => ?_)
    have hY1 := hY.f5 hF
    have hk1 := hk M1 hY1
    refine ⟨_, p_loop0 (fun f i => wX9_partsOf_L10 (1 : Int32) (fun M12 x3_13 x4_14 => (K x3_13 M12)) f M1 (nI (sumTo (fun i => if S (6 + (sPt S w).getD i 0) = 0 then 1 else 0) i)) (nI i)) (sPt S w).length ?_ ?_⟩
    · intro f; exact br_t (by rw [hP.1]; exact nI_le (Nat.le_refl _) (by omega)) hk1
    · intro f i hi ih
      simp only [sumTo] at ih
      refine br_f (by rw [hP.1]; exact nI_ge hi (by omega)) (br_f (by decide) ⟨pk_in i 29 (by omega), ?_⟩)
      rw [nI_clamp (by omega), hP.2 i hi]
      refine y_isUntried hY1.1 (getD_lt hlt hi) (fun y => br_f (by decide) ?_) (fun y => br_t rfl ?_)
      · rw [if_pos y] at ih; rw [nI_add1, nI_add1]; exact ih
      · rw [if_neg y] at ih; rw [Int32.add_zero, nI_add1]; exact ih
  · rw [if_neg (by rw [z]; decide), if_neg (by rw [z]; decide), if_neg (by rw [z]; decide), if_neg (by rw [z]; decide), if_pos z] at hk
    refine y_coversNone (fun M1 h1 hF1 => ?_)
    have hY1 := hY.fr hF1 (by omega) (by omega) (by omega) (by omega) (fun z => z) (fun z => z) (fun z => z)
    exact y_gainOf (ws := []) hY1.1 hO (fun p hp => by rw [h1 p hp]; rfl) hw (fun M2 _ hF2 => hk M2 (hY1.f5 hF2))
  · rw [if_neg z0, if_neg z1, if_neg z2, if_neg z3, if_neg z4] at hkM; exact hkM
theorem y_lto_bad {a b : Int32} (hY : YR M S sn Sn h Hs t n) (hO : Ok S) (ha : a < 0 ∨ nI (sN S) ≤ a) (hk : K (-1) M) : wX9_letterOf M a b K := by
  refine y_isWord hY.1 hO.l (fun w hw e => ?_) (fun _ => br_t rfl hk)
  subst e
  exact absurd ha (fun z => z.elim (nI_pos (by have := hO.2.1.2; omega)) (nI_ge hw (by have := hO.2.1.2; omega)))
theorem y_lto {w : Nat} {b : Int32} (hY : YR M S sn Sn h Hs t n) (hO : Ok S) (hw : w < sN S) (hk : K (ltoR S w b) M) : wX9_letterOf M (nI w) b K := by
  have hN := hO.2.1.2
  have ho := hO.2.2.1 w hw
  have h15 := ho.2.2.1
  refine y_isWord hY.1 hO.l (fun _ _ _ => br_f (by decide) ?_) (fun z => absurd z (fun z => z.elim (nI_pos (by omega)) (nI_ge hw (by omega))))
  unfold ltoR at hk
  refine ⟨fun z => y_sizeOf hY.1 ho (by omega) ?_, fun z => ?_⟩
  · rw [if_pos z] at hk
    refine ⟨fun y => ?_, fun y => ?_⟩
    · rw [if_pos y] at hk; exact hk
    · rw [if_neg y] at hk
      rcases pk_ix b (n := sL S w) (by omega) with q | q | ⟨j, hj, rfl⟩
      · exact absurd q (Int32.not_lt.mpr z)
      · exact absurd q y
      · rw [nI_clamp (by omega)] at hk
        exact y_letterAt hY.1 ho (by omega) hj hk
  · rw [if_neg z] at hk; exact hk
theorem y_sheet_bad {a b c : Int32} (ha : ¬ lnOk a ∨ b < 0 ∨ c < 0 ∨ ¬ c ≤ 1) (hk : K (-2) M) : wX9_sheet M a b c K := by
  refine y_isLines (fun z => br_f (by decide) ⟨fun _ => hk, fun y => ?_⟩) (fun _ => br_t rfl hk)
  refine y_in (lo := 0) (hi := 1) rfl rfl (fun w v => ?_) (fun _ => br_t rfl hk)
  rcases ha with q | q | q | q
  · exact absurd z q
  · exact absurd q y
  · exact absurd q w
  · exact absurd (Int32.not_lt.mp v) q
theorem y_sheet {k : Nat} {b c : Int32} (hY : YR M S sn Sn h Hs t n) (hO : Ok S) (ha : lnOk (nI k)) (h10 : k ≤ 10) (hb : ¬ b < 0) (hc0 : ¬ c < 0) (hc1 : c ≤ 1) (hk : ∀ M', YR M' S sn Sn h Hs t n → K (shtR S k b c) M') : wX9_sheet M (nI k) b c K := by
  refine y_isLines (fun _ => br_f (by decide) (br_f hb ?_)) (fun z => absurd ha z)
  refine y_in (lo := 0) (hi := 1) rfl rfl (fun _ _ => br_f (by decide) (y_makesSheet hY.1 hO h10 (fun M1 hP1 hF1 => ?_))) (fun w => (w.elim (fun w => absurd w hc0) (fun w => absurd hc1 (Int32.not_le.mpr w))))
  have hk1 := hk M1 (hY.fS hF1)
  have hl := shF_len S k
  rw [hP1.1]
  unfold shtR at hk1
  refine ⟨fun z => ?_, fun z => ?_⟩
  · rw [if_pos z] at hk1
    obtain ⟨j, hj, rfl⟩ := nI_of hb
    have hjl : j < (shF S k).length := (nI_ltI (by omega) (by omega)).mp z
    have hv := hP1.2.2.1 j hjl
    rw [nI_clamp hj] at hk1 ⊢
    have hin : vp_in (nI j) 10 := pk_in j 10 (by omega)
    refine ⟨fun y => ?_, fun y => ?_⟩
    · rw [if_pos y] at hk1; rw [hv.1]; exact ⟨hin, hk1⟩
    · rw [if_neg y] at hk1; rw [hv.2]; exact ⟨hin, hk1⟩
  · rw [if_neg z] at hk1; exact hk1
theorem y_coveredIn {a b : Nat} (hP : LnR M S ws) (hab : a ≤ b) (hb : b ≤ 702) (hk : K (nI (cvd S ws a b)) M) : wX9_coveredIn M (nI a) (nI b) K := by
  refine ⟨_, p_loop0 (fun f i => wX9_coveredIn_L5 (nI b) (fun M7 x3_8 x4_9 => (K x3_8 M7)) f M (nI (sumTo (fun i => if covB S ws (a + i) then 1 else 0) i)) (nI (a + i))) (b - a) ?_ ?_⟩
  · intro f; exact br_t (nI_le (by omega) (by omega)) hk
  · intro f i hi ih
    refine br_f (nI_ge (by omega) (by omega)) ⟨pk_in (a + i) 702 (by omega), ?_⟩
    rw [nI_clamp (by omega), hP.2.2.2.1 (a + i) (by omega)]
    simp only [sumTo] at ih
    rw [nI_add1 (a + i)]
    cases hc : covB S ws (a + i) with
    | false => rw [hc] at ih; exact (Int32.add_zero (nI _)).symm ▸ ih
    | true => rw [hc] at ih; exact (nI_add1 _).symm ▸ ih
theorem y_coveredNeeds (hR : RW M S) (hO : OkP S) (hP : LnR M S ws) (hk : K (nI (sumTo (fun p => if covB S ws p then nd S p else 0) 702)) M) : wX9_coveredNeeds M K := by
  refine ⟨_, p_loop0 (fun f i => wX9_coveredNeeds_L4 (fun M9 x1_10 x2_11 => (K x1_10 M9)) f M (nI (sumTo (fun p => if covB S ws p then nd S p else 0) i)) (nI i)) 702 ?_ ?_⟩
  · intro f; exact br_t (nI_le (a := 702) (b := 702) (by omega) (by omega)) hk
  · intro f i hi ih
    refine br_f (nI_ge (a := i) (b := 702) hi (by omega)) ⟨pk_in i 702 hi, y_needOf hR hO hi ?_⟩
    rw [nI_clamp (by omega), hP.2.2.2.1 i hi, nI_add1 i]
    simp only [sumTo] at ih
    have e : nI (sumTo (fun p => if covB S ws p then nd S p else 0) i) + b2 (covB S ws i) * nI (nd S i) = nI (sumTo (fun p => if covB S ws p then nd S p else 0) i + if covB S ws i then nd S i else 0) := by
      cases covB S ws i with
      | false => show _ + 0 * nI (nd S i) = nI (_ + 0); rw [Int32.zero_mul, Int32.add_zero]; rfl
      | true => show _ + 1 * nI (nd S i) = nI (_ + nd S i); rw [Int32.one_mul, nI_add]
    rw [e]; exact ih
theorem y_gains (hP : LnR M S ws) (hk : K (nI (sumTo (fun i => gain S (ws.take i) (ws.getD i 0)) ws.length)) M) : wX9_gains M K := by
  have h10 := hP.2.1
  refine ⟨_, p_loop0 (fun f i => wX9_gains_L4 (fun M7 x1_8 x2_9 => (K x1_8 M7)) f M (nI (sumTo (fun i => gain S (ws.take i) (ws.getD i 0)) i)) (nI i)) ws.length ?_ ?_⟩
  · intro f; exact br_t (by rw [hP.1]; exact nI_le (Nat.le_refl _) (by omega)) hk
  · intro f i hi ih
    refine br_f (by rw [hP.1]; exact nI_ge hi (by omega)) ⟨pk_in i 10 (by omega), ?_⟩
    rw [nI_clamp (by omega), (hP.2.2.1 i hi).2, nI_add, nI_add1]; exact ih
theorem y_cov_bad {a c : Int32} (ha : ¬ lnOk a ∨ c < 0 ∨ ¬ c ≤ 4) (hk : K (-2) M) : wX9_covers M a c K := by
  refine y_isLines (fun z => br_f (by decide) (y_in (lo := 0) (hi := 4) rfl rfl (fun w v => ?_) (fun _ => br_t rfl hk))) (fun _ => br_t rfl hk)
  rcases ha with q | q | q
  · exact absurd z q
  · exact absurd q w
  · exact absurd (Int32.not_lt.mp v) q
theorem y_cov {k : Nat} {c : Int32} (hY : YR M S sn Sn h Hs t n) (hO : Ok S) (ha : lnOk (nI k)) (h10 : k ≤ 10) (hc0 : ¬ c < 0) (hc1 : c ≤ 4) (hk : ∀ M', YR M' S sn Sn h Hs t n → K (covR S k c) M') : wX9_covers M (nI k) c K := by
  refine y_isLines (fun _ => br_f (by decide) ?_) (fun z => absurd ha z)
  refine y_in (lo := 0) (hi := 4) rfl rfl (fun _ _ => br_f (by decide) (y_makesSheet hY.1 hO h10 (fun M1 hP1 hF1 => ?_))) (fun w => (w.elim (fun w => absurd w hc0) (fun w => absurd hc1 (Int32.not_le.mpr w))))
  have hY1 := hY.fS hF1
  have hk1 := hk M1 hY1
  unfold covR at hk1
  refine ⟨fun z => ?_, fun z0 => ⟨fun z => ?_, fun z1 => ⟨fun z => ?_, fun z2 => ⟨fun z => ?_, fun z3 => ?_⟩⟩⟩⟩
  · rw [if_pos z] at hk1; rw [hP1.1]; exact hk1
  · rw [if_neg z0, if_pos z] at hk1; exact y_coveredIn (a := 0) (b := 26) hP1 (by omega) (by omega) hk1
  · rw [if_neg z0, if_neg z1, if_pos z] at hk1; exact y_coveredIn (a := 26) (b := 702) hP1 (by omega) (by omega) hk1
  · rw [if_neg z0, if_neg z1, if_neg z2, if_pos z] at hk1; exact y_coveredNeeds hY1.1 hO.1 hP1 hk1
  · rw [if_neg z0, if_neg z1, if_neg z2, if_neg z3] at hk1; exact y_gains hP1 hk1
/-! ranks -/
theorem y_worst_bad {a b : Int32} (hb : ¬ 0 ≤ b) (hk : K (-2) M) : wX9_worst M a b K := br_f hb hk
theorem y_rank {a b r : Nat} (hR : RW M S) (hO : OkP S) (hab : a ≤ b) (hb : b ≤ 702) (hr : r < 2 ^ 31) (hk : K (oS a (wstF S a b 99 r)) M) : ∃ n31 : Nat, wX9_worst_L39 (nI a) (nI b) K (fun M28 x5_29 x6_30 => (K (-5 : Int32) M28)) n31 M (nI r) (100 : Int32) := by
  have inner : ∀ (X0 : gW → Int32 → Int32 → Prop) d e p left, p + e = b → a ≤ p → left < 2 ^ 31 → d ≤ 100 → (∀ q, nthF S d e p left = some q → K (nI q - nI a) M) → (nthF S d e p left = none → X0 M (nI (left - cF S d e p)) (nI b)) → wX9_worst_L47 (nI a) (nI b) (nI d) K X0 (e + 1) M (nI left) (nI p) := by
    intro X0 d e
    induction e with
    | zero =>
      intro p left hp hap hl hd hs hn
      obtain rfl : p = b := by omega
      exact br_t (nI_le (Nat.le_refl _) (by omega)) (hn rfl)
    | succ e ih =>
      intro p left hp hap hl hd hs hn
      have hnd := nd_le hO (p := p) (by omega)
      have ed : nthF S d (e + 1) p left = (if nd S p = d then (if left = 0 then some p else nthF S d e (p + 1) (left - 1)) else nthF S d e (p + 1) left) := rfl
      have ec : cF S d (e + 1) p = (if nd S p = d then 1 else 0) + cF S d e (p + 1) := rfl
      rw [ed] at hs hn
      rw [ec] at hn
      refine br_f (nI_ge (by omega) (by omega)) (y_needOf hR hO (by omega) ?_)
      refine pk_eq (nd S p) d (fun z => ?_) (fun z => ?_)
      · rw [if_pos z] at hs hn
        rw [if_pos z] at hn
        refine pk_eq left 0 (fun y => ?_) (fun y => ?_)
        · rw [if_pos y] at hs; exact hs p rfl
        · rw [if_neg y] at hs hn
          have e1 : nI left + (-1 : Int32) = nI (left - 1) := by
            obtain ⟨l', rfl⟩ : ∃ l', left = l' + 1 := ⟨left - 1, by omega⟩
            exact pk_m1 l'
          rw [e1, nI_add1]
          refine ih (p + 1) (left - 1) (by omega) (by omega) (by omega) hd hs (fun q => ?_)
          rw [show left - 1 - cF S d e (p + 1) = left - (1 + cF S d e (p + 1)) by omega]; exact hn q
      · rw [if_neg z] at hs hn
        rw [if_neg z, Nat.zero_add] at hn
        rw [nI_add1]; exact ih (p + 1) left (by omega) (by omega) hl hd hs hn
  have key : ∀ d left, d ≤ 100 → left < 2 ^ 31 → K (oS a (wstF S a b d left)) M → wX9_worst_L39 (nI a) (nI b) K (fun M28 x5_29 x6_30 => (K (-5 : Int32) M28)) (d + 1) M (nI left) (nI d) := by
    intro d
    induction d with
    | zero => intro left _ hl hk; exact br_t (by decide) hk
    | succ d ih =>
      intro left hd hl hk
      have ew : wstF S a b (d + 1) left = (if cntP S a b (d + 1) ≤ left then wstF S a b d (left - cntP S a b (d + 1)) else nthF S (d + 1) (b - a) a left) := rfl
      have ecn : cntP S a b (d + 1) = cF S (d + 1) (b - a) a := (cF_sum S (d + 1) (b - a) a).symm
      rw [ew, ecn] at hk
      refine br_f (nI_nle (n := d + 1) (by omega) (by omega)) ⟨_, inner _ (d + 1) (b - a) a left (by omega) (Nat.le_refl _) hl hd (fun q hq => ?_) (fun hq => ?_)⟩
      · have hlt := nthF_lt _ _ _ _ hq
        have hc : ¬ cF S (d + 1) (b - a) a ≤ left := fun z => by rw [nthF_none S (d + 1) (b - a) a left z] at hq; cases hq
        rw [if_neg hc, hq] at hk
        rw [pk_sub hlt.1]; exact hk
      · have hc := nthF_ge _ _ _ hq
        rw [if_pos hc] at hk
        rw [pk_m1]; exact ih _ (by omega) (by omega) hk
  refine ⟨_, key 100 r (Nat.le_refl _) hr ?_⟩
  have e0 : cntP S a b 100 = 0 := by
    unfold cntP
    have : sumTo (fun i => if nd S (a + i) = 100 then 1 else 0) (b - a) ≤ (b - a) * 0 := sumTo_le (b - a) (fun k hk => by
      have := nd_le hO (p := a + k) (by omega)
      rw [if_neg (by omega)]; exact Nat.le_refl 0)
    omega
  have ew : wstF S a b 100 r = (if cntP S a b 100 ≤ r then wstF S a b 99 (r - cntP S a b 100) else nthF S 100 (b - a) a r) := rfl
  rw [ew, e0, if_pos (Nat.zero_le _), Nat.sub_zero]; exact hk
theorem y_worst {a : Int32} {r : Nat} (hY : YR M S sn Sn h Hs t n) (hO : Ok S) (hr : r < 2 ^ 31) (hk : K (oS (paA a) (wstF S (paA a) (paB a) 99 r)) M) : wX9_worst M a (nI r) K := by
  refine br_t (nI_pos' hr) ?_
  by_cases z : a = 0
  · have e1 : paA a = 0 := by unfold paA; rw [if_pos z]
    have e2 : paB a = 26 := by unfold paB; rw [if_pos z]
    rw [e1, e2] at hk
    exact br_t z (br_t z (y_rank (a := 0) (b := 26) hY.1 hO.1 (by omega) (by omega) hr hk))
  · have e1 : paA a = 26 := by unfold paA; rw [if_neg z]
    have e2 : paB a = 702 := by unfold paB; rw [if_neg z]
    rw [e1, e2] at hk
    exact br_f z (br_f z (y_rank (a := 26) (b := 702) hY.1 hO.1 (by omega) (by omega) hr hk))
theorem y_missing {a : Int32} (hY : YR M S sn Sn h Hs t n) (hO : Ok S) (hk : ∀ M', YR M' S sn Sn h Hs t n → K (nI (misN S (paA a) (paB a))) M') : wX9_missing M a K := by
  have hp := pa_le a
  -- a part is asked
  have ask : ∀ f M2 i, YR M2 S sn Sn h Hs t n → i < paB a - paA a → (∀ M', YR M' S sn Sn h Hs t n → wX9_missing_L13 a (fun M24 x2_25 x3_26 => (K x2_25 M24)) f M' (nI (sumTo (fun i => if nd S (paA a + i) ≤ 0 then 0 else if hmh S (paA a + i) = 0 then 1 else 0) (i + 1))) (nI (paA a + i + 1))) →
      wX9_needOf M2 (nI (paA a + i)) (fun r12 M11 => ((r12 ≤ 0 → (wX9_missing_L13 a (fun M24 x2_25 x3_26 => (K x2_25 M24)) f M11 (nI (sumTo (fun i => if nd S (paA a + i) ≤ 0 then 0 else if hmh S (paA a + i) = 0 then 1 else 0) i) + (0 : Int32)) (nI (paA a + i) + (1 : Int32)))) ∧ (¬ (r12 ≤ 0) → (wX9_wordsWith M11 (nI (paA a + i)) (fun r15 M14 => ((r15 = 0 → (wX9_missing_L13 a (fun M24 x2_25 x3_26 => (K x2_25 M24)) f M14 (nI (sumTo (fun i => if nd S (paA a + i) ≤ 0 then 0 else if hmh S (paA a + i) = 0 then 1 else 0) i) + (1 : Int32)) (nI (paA a + i) + (1 : Int32)))) ∧ (¬ (r15 = 0) → (wX9_missing_L13 a (fun M24 x2_25 x3_26 => (K x2_25 M24)) f M14 (nI (sumTo (fun i => if nd S (paA a + i) ≤ 0 then 0 else if hmh S (paA a + i) = 0 then 1 else 0) i) + (0 : Int32)) (nI (paA a + i) + (1 : Int32)))))))))) := by
    intro f M2 i hY2 hi hk2
    have hn := nd_le hO.1 (p := paA a + i) (by omega)
    simp only [sumTo] at hk2
    refine y_needOf hY2.1 hO.1 (by omega) ?_
    refine pk_le (nd S (paA a + i)) 0 (fun z => ?_) (fun z => ?_)
    · have := hk2 M2 hY2
      rw [if_pos z] at this; rw [Int32.add_zero, nI_add1]; exact this
    · rw [if_neg (by omega)] at hk2
      have hh := hmh_le (p := paA a + i) hO.2.1.2
      refine y_wordsWith hY2.1 hO.l (by omega) (fun M3 hF3 => ?_)
      have := hk2 M3 (hY2.f5 hF3)
      refine pk_eq (hmh S (paA a + i)) 0 (fun y => ?_) (fun y => ?_)
      · rw [if_pos y] at this; rw [nI_add1, nI_add1]; exact this
      · rw [if_neg y] at this; rw [Int32.add_zero, nI_add1]; exact this
  have loop : ∃ n27 : Nat, wX9_missing_L13 a (fun M24 x2_25 x3_26 => (K x2_25 M24)) n27 M (0 : Int32) (nI (paA a)) := by
    refine ⟨_, p_loop0 (fun f i => ∀ M2, YR M2 S sn Sn h Hs t n → wX9_missing_L13 a (fun M24 x2_25 x3_26 => (K x2_25 M24)) f M2 (nI (sumTo (fun i => if nd S (paA a + i) ≤ 0 then 0 else if hmh S (paA a + i) = 0 then 1 else 0) i)) (nI (paA a + i))) (paB a - paA a) ?_ ?_ M hY⟩
    · intro f M2 hY2
      have hk2 := hk M2 hY2
      by_cases z : a = 0
      · have e2 : paB a = 26 := by unfold paB; rw [if_pos z]
        exact br_t z (br_t (nI_le (a := 26) (by omega) (by omega)) hk2)
      · have e2 : paB a = 702 := by unfold paB; rw [if_neg z]
        exact br_f z (br_t (nI_le (a := 702) (by omega) (by omega)) hk2)
    · intro f i hi ih M2 hY2
      have hask := ask f M2 i hY2 hi (fun M' hY' => ih M' hY')
      by_cases z : a = 0
      · have e2 : paB a = 26 := by unfold paB; rw [if_pos z]
        exact br_t z (br_f (nI_ge (b := 26) (by omega) (by omega)) hask)
      · have e2 : paB a = 702 := by unfold paB; rw [if_neg z]
        exact br_f z (br_f (nI_ge (b := 702) (by omega) (by omega)) hask)
  by_cases z : a = 0
  · have e1 : paA a = 0 := by unfold paA; rw [if_pos z]
    rw [e1] at loop
    exact br_t z loop
  · have e1 : paA a = 26 := by unfold paA; rw [if_neg z]
    rw [e1] at loop
    exact br_f z loop
/-! sheets to a need -/
theorem y_greatest (hR : RW M S) (hO : Ok S) (hk : ∀ M', FY k5 j8 M M' → K (nI (maxTo (gnW S) (sN S))) M') : wX9_greatestOfWords M K := by
  have hN := hO.2.1.2
  have h5 := hO.2.1.1
  refine ⟨_, p_loop0 (fun f w => ∀ M2, FY k5 j8 M M2 → wX9_greatestOfWords_L4 (fun M24 x1_25 x2_26 => (K x1_25 M24)) f M2 (nI (maxTo (gnW S) w)) (nI w)) (sN S) ?_ ?_ M FY.rf⟩
  · intro f M2 hF2
    refine ⟨pk_in 5 1730 (by omega), br_t ?_ (hk M2 hF2)⟩
    rw [show (5 : Int32).toNatClampNeg = 5 from rfl, (hR.fr hF2 (by omega)) 5 (by omega), h5]; exact nI_le (Nat.le_refl _) (by omega)
  · intro f w hw ih M2 hF2
    have hR2 := hR.fr hF2 (by omega)
    have ho := hO.2.2.1 w hw
    have hl := sPt_len ho
    have hlt := sPt_lt ho
    refine ⟨pk_in 5 1730 (by omega), br_f ?_ ?_⟩
    · rw [show (5 : Int32).toNatClampNeg = 5 from rfl, hR2 5 (by omega), h5]; exact nI_ge hw (by omega)
    · refine y_findsParts hR2 ho (by omega) (fun M3 hP3 hF3 => ?_)
      have hF3' := hF2.tr hF3
      have hR3 := hR.fr hF3' (by omega)
      have hA : maxTo (gnW S) w ≤ 99 := maxTo_le w (fun x hx => gnW_le hO.1 (hO.2.2.1 x (by omega)))
      have e0 : nI (maxTo (gnW S) w) = nI (max (maxTo (gnW S) w) (maxTo (fun i => nd S ((sPt S w).getD i 0)) 0)) := by
        show _ = nI (max (maxTo (gnW S) w) 0); rw [Nat.max_zero]
      rw [e0]
      refine ⟨_, p_loop0 (fun f2 i => wX9_greatestOfWords_L21 (fun M20 x1_21 x3_22 => (wX9_greatestOfWords_L4 (fun M24 x1_25 x2_26 => (K x1_25 M24)) f M20 x1_21 (nI w + (1 : Int32)))) f2 M3 (nI (max (maxTo (gnW S) w) (maxTo (fun i => nd S ((sPt S w).getD i 0)) i))) (nI i)) (sPt S w).length ?_ ?_⟩
      · intro f2
        refine br_t (by rw [hP3.1]; exact nI_le (Nat.le_refl _) (by omega)) ?_
        dsimp only
        rw [nI_add1 w]
        have e : max (maxTo (gnW S) w) (maxTo (fun i => nd S ((sPt S w).getD i 0)) (sPt S w).length) = maxTo (gnW S) (w + 1) := by
          show max (maxTo (gnW S) w) (gnW S w) = (if maxTo (gnW S) w < gnW S w then gnW S w else maxTo (gnW S) w)
          split <;> omega
        rw [e]; exact ih M3 hF3'
      · intro f2 i hi ih2
        have hp := getD_lt hlt hi
        have hnd := nd_le hO.1 hp
        have hB : maxTo (fun i => nd S ((sPt S w).getD i 0)) i ≤ 99 := maxTo_le i (fun x hx => nd_le hO.1 (getD_lt hlt (by omega)))
        have hin : vp_in (nI i) 29 := pk_in i 29 (by omega)
        refine br_f (by rw [hP3.1]; exact nI_ge hi (by omega)) ⟨hin, ?_⟩
        rw [nI_clamp (by omega), hP3.2 i hi]
        have ei : maxTo (fun i => nd S ((sPt S w).getD i 0)) (i + 1) = (if maxTo (fun i => nd S ((sPt S w).getD i 0)) i < nd S ((sPt S w).getD i 0) then nd S ((sPt S w).getD i 0) else maxTo (fun i => nd S ((sPt S w).getD i 0)) i) := rfl
        rw [ei] at ih2
        generalize maxTo (fun i => nd S ((sPt S w).getD i 0)) i = B at *
        refine y_needOf hR3 hO.1 hp (pk_le (nd S ((sPt S w).getD i 0)) (max (maxTo (gnW S) w) B) (fun z => ?_) (fun z => ⟨hin, ?_⟩))
        · rw [nI_add1 i]
          have e : max (maxTo (gnW S) w) (if B < nd S ((sPt S w).getD i 0) then nd S ((sPt S w).getD i 0) else B) = max (maxTo (gnW S) w) B := by split <;> omega
          rw [e] at ih2; exact ih2
        · rw [hP3.2 i hi]
          refine y_needOf hR3 hO.1 hp ?_
          rw [nI_add1 i]
          have e : max (maxTo (gnW S) w) (if B < nd S ((sPt S w).getD i 0) then nd S ((sPt S w).getD i 0) else B) = nd S ((sPt S w).getD i 0) := by split <;> omega
          rw [e] at ih2; exact ih2
theorem y_to_bad {a c : Int32} (ha : ¬ lnOk a ∨ c < 0 ∨ ¬ c ≤ 99) (hk : K (-2) M) : wX9_sheetsTo M a c K := by
  refine y_isLines (fun z => br_f (by decide) (y_in (lo := 0) (hi := 99) rfl rfl (fun w v => ?_) (fun _ => br_t rfl hk))) (fun _ => br_t rfl hk)
  rcases ha with q | q | q
  · exact absurd z q
  · exact absurd q w
  · exact absurd (Int32.not_lt.mp v) q
abbrev kT : Nat → Prop := fun k => k = 0 ∨ k = 2 ∨ (5 ≤ k ∧ k ≤ 8)
theorem y_to {k need : Nat} (hY : YR M S sn Sn h Hs t n) (hO : Ok S) (ha : lnOk (nI k)) (h10 : k ≤ 10) (hn : need ≤ 99) (hk : ∀ M', YR M' S sn Sn h Hs t n → K (stF k need 21 0 S) M') : wX9_sheetsTo M (nI k) (nI need) K := by
  refine y_isLines (fun _ => br_f (by decide) ?_) (fun z => absurd ha z)
  refine y_in (lo := 0) (hi := 99) rfl rfl (fun _ _ => br_f (by decide) ?_) (fun w => (w.elim (fun w => absurd w (nI_pos (by omega))) (fun w => absurd (nI_le (a := need) (b := 99) hn (by omega)) (Int32.not_le.mpr w))))
  refine y_copy (a := 0) (b := 2) (by decide) rfl rfl hY.1 (fun M1 h1 hF1 => ?_)
  have hF1' : FY kT jS M M1 := hF1.mono (fun k z => by omega) (fun j z => z.elim)
  -- at the end
  have fin : ∀ M2, RK M2 2 S → FY kT jS M M2 → ∀ x y r : Int32, ((y = 0 → r = (-5 : Int32)) ∧ (¬ y = 0 → r = x)) → (∀ M', YR M' S sn Sn h Hs t n → K r M') → wX9_copy M2 2 0 (fun M23 => ((y = 0 → (K (-5 : Int32) M23)) ∧ (¬ (y = 0) → (K x M23)))) := by
    intro M2 h2 hF2 x y r hr hk2
    refine y_copy (a := 2) (b := 0) (by decide) rfl rfl h2 (fun M3 hR3 hF3 => ?_)
    have hF3' : FY kT jS M M3 := hF2.tr (hF3.mono (fun k z => by omega) (fun j z => z.elim))
    have hY3 : YR M3 S sn Sn h Hs t n := ⟨hR3, hY.2.fr hF3' (by omega) (by omega) (by omega) (by omega) (by omega) (by omega)⟩
    have := hk2 M3 hY3
    exact ⟨fun z => (hr.1 z) ▸ this, fun z => (hr.2 z) ▸ this⟩
  have key : ∀ f d T M2, d + f = 20 → RW M2 T → Ok T → RK M2 2 S → FY kT jS M M2 → (∀ M', YR M' S sn Sn h Hs t n → K (stF k need (f + 1) d T) M') → wX9_sheetsTo_L38 (nI k) (nI need) (fun M20 x3_21 x4_22 => (wX9_copy M20 2 0 (fun M23 => ((x4_22 = 0 → (K (-5 : Int32) M23)) ∧ (¬ (x4_22 = 0) → (K x3_21 M23)))))) (f + 2) M2 (nI d) 1 := by
    intro f
    induction f with
    | zero =>
      intro d T M2 hd hR2 hO2 h22 hF2 hk2
      have hg : maxTo (gnW T) (sN T) ≤ 99 := maxTo_le _ (fun w hw => gnW_le hO2.1 (hO2.2.2.1 w hw))
      refine br_f (by decide) (y_greatest hR2 hO2 (fun M3 hF3 => ?_))
      have hF3' : FY kT jS M M3 := hF2.tr (hF3.mono (fun k z => by omega) (fun j z => Or.inl z))
      have h32 := h22.fr hF3 (by omega)
      have hR3 := hR2.fr hF3 (by omega)
      have es : stF k need 1 d T = (if maxTo (gnW T) (sN T) ≤ need then nI d else if (shF T k).length = 0 then -5 else -5) := rfl
      rw [Nat.zero_add, es] at hk2
      refine pk_le (maxTo (gnW T) (sN T)) need (fun z => ?_) (fun z => ?_)
      · rw [if_pos z] at hk2
        exact fin M3 h32 hF3' _ 1 _ ⟨fun y => absurd y (by decide), fun _ => rfl⟩ hk2
      · rw [if_neg (by omega), ite_self] at hk2
        refine y_makesSheet hR3 hO2 h10 (fun M4 hP4 hF4 => ?_)
        have hF4' : FY kT jS M M4 := hF3'.tr (hF4.mono (fun k z => by omega) (fun j z => z))
        have h42 := h32.fr hF4 (by omega)
        have hend : wX9_sheetsTo_L38 (nI k) (nI need) (fun M20 x3_21 x4_22 => (wX9_copy M20 2 0 (fun M23 => ((x4_22 = 0 → (K (-5 : Int32) M23)) ∧ (¬ (x4_22 = 0) → (K x3_21 M23)))))) 1 M4 (nI d) 0 := br_t rfl (fin M4 h42 hF4' (nI d) 0 _ ⟨fun _ => rfl, fun y => absurd rfl y⟩ hk2)
        exact ⟨fun _ => hend, fun _ => br_t (nI_le (a := 20) (b := d) (by omega) (by omega)) hend⟩
    | succ f ih =>
      intro d T M2 hd hR2 hO2 h22 hF2 hk2
      have hg : maxTo (gnW T) (sN T) ≤ 99 := maxTo_le _ (fun w hw => gnW_le hO2.1 (hO2.2.2.1 w hw))
      refine br_f (by decide) (y_greatest hR2 hO2 (fun M3 hF3 => ?_))
      have hF3' : FY kT jS M M3 := hF2.tr (hF3.mono (fun k z => by omega) (fun j z => Or.inl z))
      have h32 := h22.fr hF3 (by omega)
      have hR3 := hR2.fr hF3 (by omega)
      have es : stF k need (f + 1 + 1) d T = (if maxTo (gnW T) (sN T) ≤ need then nI d else if (shF T k).length = 0 then -5 else stF k need (f + 1) (d + 1) (prac T (shF T k))) := rfl
      rw [es] at hk2
      refine pk_le (maxTo (gnW T) (sN T)) need (fun z => ?_) (fun z => ?_)
      · rw [if_pos z] at hk2
        exact fin M3 h32 hF3' _ 1 _ ⟨fun y => absurd y (by decide), fun _ => rfl⟩ hk2
      · rw [if_neg (by omega)] at hk2
        refine y_makesSheet hR3 hO2 h10 (fun M4 hP4 hF4 => ?_)
        have hF4' : FY kT jS M M4 := hF3'.tr (hF4.mono (fun k z => by omega) (fun j z => z))
        have h42 := h32.fr hF4 (by omega)
        have hR4 := hR3.fr hF4 (by omega)
        have hl := shF_len T k
        rw [hP4.1]
        refine pk_le (shF T k).length 0 (fun y => ?_) (fun y => ?_)
        · rw [if_pos (by omega)] at hk2
          exact br_t rfl (fin M4 h42 hF4' (nI d) 0 _ ⟨fun _ => rfl, fun y => absurd rfl y⟩ hk2)
        · rw [if_neg (by omega)] at hk2
          refine br_f (nI_ge (a := d) (b := 20) (by omega) (by omega)) (y_writesSheet hR4 hO2 hP4 (fun M5 hR5 hF5 => ?_))
          rw [nI_add1]
          exact ih (d + 1) _ M5 (by omega) hR5 (prac_ok hO2 (shF_lt T k)) (h42.fr hF5 (by omega)) (hF4'.tr (hF5.mono (fun k z => Or.inl z) (fun j z => z.elim))) hk2
  exact ⟨_, key 20 0 S M1 rfl (hY.1.fr hF1 (by omega)) hO h1 hF1' hk⟩
/-! numbers -/
theorem y_greatestNeed {a b : Nat} (hR : RW M S) (hO : OkP S) (hab : a ≤ b) (hb : b ≤ 702) (hk : K (nI (gnFr S a b)) M) : wX9_greatestNeed M (nI a) (nI b) K := by
  refine ⟨_, p_loop0 (fun f i => wX9_greatestNeed_L5 (nI b) (fun M11 x3_12 x4_13 => (K x3_12 M11)) f M (nI (maxTo (fun i => nd S (a + i)) i)) (nI (a + i))) (b - a) ?_ ?_⟩
  · intro f; exact br_t (nI_le (by omega) (by omega)) hk
  · intro f i hi ih
    have hnd := nd_le hO (p := a + i) (by omega)
    have hB : maxTo (fun i => nd S (a + i)) i ≤ 99 := maxTo_le i (fun x hx => nd_le hO (by omega))
    simp only [maxTo] at ih
    refine br_f (nI_ge (by omega) (by omega)) (y_needOf hR hO (by omega) (pk_le (nd S (a + i)) (maxTo (fun i => nd S (a + i)) i) (fun z => ?_) (fun z => y_needOf hR hO (by omega) ?_)))
    · rw [if_neg (by omega)] at ih; rw [nI_add1]; exact ih
    · rw [if_pos z] at ih; rw [nI_add1]; exact ih
def untN (S : gR) (a b : Nat) : Nat := sumTo (fun i => if S (6 + (a + i)) = 0 then 1 else 0) (b - a)
theorem untN_tri {S : gR} {a b : Nat} : untN S a b + triN S a b = b - a := by
  unfold untN triN
  generalize b - a = d
  induction d with
  | zero => rfl
  | succ d ih => simp only [sumTo]; split <;> omega
theorem y_untriedIn {a b : Nat} (hR : RW M S) (hab : a ≤ b) (hb : b ≤ 702) (hk : K (nI (untN S a b)) M) : wX9_untriedIn M (nI a) (nI b) K := by
  refine ⟨_, p_loop0 (fun f i => wX9_untriedIn_L5 (nI b) (fun M9 x3_10 x4_11 => (K x3_10 M9)) f M (nI (sumTo (fun i => if S (6 + (a + i)) = 0 then 1 else 0) i)) (nI (a + i))) (b - a) ?_ ?_⟩
  · intro f; exact br_t (nI_le (by omega) (by omega)) hk
  · intro f i hi ih
    simp only [sumTo] at ih
    refine br_f (nI_ge (by omega) (by omega)) (y_isUntried hR (by omega) (fun z => br_f (by decide) ?_) (fun z => br_t rfl ?_))
    · rw [if_pos z] at ih; rw [nI_add1, nI_add1]; exact ih
    · rw [if_neg z] at ih; rw [Int32.add_zero, nI_add1]; exact ih
theorem y_count {a : Int32} (hY : YR M S sn Sn h Hs t n) (hO : Ok S) (hk : K (couR S h n a) M) : wX9_count M a K := by
  have hR := hY.1
  have rd : ∀ (c : Int32) (i : Nat), c = nI i → i < 6 → K (S i) M → (vp_in c 1730 ∧ K (M 22 0 c.toNatClampNeg) M) := by
    intro c i e hi hk; subst e
    rw [nI_clamp (by omega), hR i (by omega)]; exact ⟨pk_in i 1730 (by omega), hk⟩
  unfold couR at hk
  refine ⟨fun z => ?_, fun z => ?_, fun z => ?_, fun z => ?_, fun z => ?_, fun z => ?_, fun z => ?_, fun z => ?_, fun z => ?_, fun z => ?_, fun z => ?_, fun z => ?_, fun z0 z1 z2 z3 z4 z5 z6 z7 z8 z9 z10 z11 => ?_⟩
  · rw [if_pos z] at hk; exact rd 5 5 rfl (by omega) hk
  · rw [if_neg (by rw [z]; decide), if_pos z] at hk; exact rd 1 1 rfl (by omega) hk
  · iterate 2 rw [if_neg (by rw [z]; decide)] at hk
    rw [if_pos z] at hk; exact rd 0 0 rfl (by omega) hk
  · iterate 3 rw [if_neg (by rw [z]; decide)] at hk
    rw [if_pos z] at hk
    have e := untN_tri (S := S) (a := 0) (b := 26)
    have e2 : (26 : Int32) - nI (triN S 0 26) = nI (untN S 0 26) := by
      rw [show (26 : Int32) - nI (triN S 0 26) = nI (26 - triN S 0 26) from pk_sub (a := 26) (by omega)]; congr 1; omega
    rw [e2] at hk
    exact y_untriedIn (a := 0) (b := 26) hR (by omega) (by omega) hk
  · iterate 4 rw [if_neg (by rw [z]; decide)] at hk
    rw [if_pos z] at hk
    refine y_untriedIn (a := 26) (b := 702) hR (by omega) (by omega) ?_
    have e := untN_tri (S := S) (a := 26) (b := 702)
    have e2 : (676 : Int32) - nI (untN S 26 702) = nI (triN S 26 702) := by
      rw [show (676 : Int32) - nI (untN S 26 702) = nI (676 - untN S 26 702) from pk_sub (a := 676) (by omega)]; congr 1; omega
    rw [e2]; exact hk
  · iterate 5 rw [if_neg (by rw [z]; decide)] at hk
    rw [if_pos z] at hk; exact y_greatestNeed (a := 0) (b := 26) hR hO.1 (by omega) (by omega) hk
  · iterate 6 rw [if_neg (by rw [z]; decide)] at hk
    rw [if_pos z] at hk; exact y_greatestNeed (a := 26) (b := 702) hR hO.1 (by omega) (by omega) hk
  · iterate 7 rw [if_neg (by rw [z]; decide)] at hk
    rw [if_pos z] at hk; exact rd 2 2 rfl (by omega) hk
  · iterate 8 rw [if_neg (by rw [z]; decide)] at hk
    rw [if_pos z] at hk; exact rd 3 3 rfl (by omega) hk
  · iterate 9 rw [if_neg (by rw [z]; decide)] at hk
    rw [if_pos z] at hk; exact rd 4 4 rfl (by omega) hk
  · iterate 10 rw [if_neg (by rw [z]; decide)] at hk
    rw [if_pos z] at hk; rw [hY.2.2.1.1]; exact hk
  · iterate 11 rw [if_neg (by rw [z]; decide)] at hk
    rw [if_pos z] at hk; rw [hY.2.2.2.1]; exact hk
  · rw [if_neg z0, if_neg z1, if_neg z2, if_neg z3, if_neg z4, if_neg z5, if_neg z6, if_neg z7, if_neg z8, if_neg z9, if_neg z10, if_neg z11] at hk; exact hk
end YT
