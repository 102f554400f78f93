/-! ===== LAYER 2: the class's reads ===== -/
theorem nI_max (a b : Nat) (ha : a < 2 ^ 31) (hb : b < 2 ^ 31) : (if nI a < nI b then nI b else nI a) = nI (if a < b then b else a) := by
  by_cases h : a < b
  · rw [if_pos h, if_pos (nI_lt h hb)]
  · rw [if_neg h, if_neg (nI_nlt (by omega) ha)]
section CL
variable {M : gW} {K : Int32 → gW → Prop} {k p q n : Nat} {S : gR} {c : Nat → Nat}
theorem s_isPart (hp : p < 702) (h : K 1 M) : wX8_isPart M (nI p) K :=
  br_f (nI_pos (by omega)) (pk_le 702 p (fun z => absurd z (by omega)) (fun _ => h))
theorem s_triesOf (hp : p < 702) (h : K (M 3 k p) M) : wX1_triesOf M k (nI p) K :=
  s_isPart hp (br_f (by decide) ⟨pk_in p 702 hp, by rw [nI_clamp (by omega)]; exact h⟩)
theorem s_slipsOf (hp : p < 702) (h : K (M 4 k p) M) : wX1_slipsOf M k (nI p) K :=
  s_isPart hp (br_f (by decide) ⟨pk_in p 702 hp, by rw [nI_clamp (by omega)]; exact h⟩)
theorem s_needOf (hR : PR M k S) (hO : OkP S) (hp : p < 702) (h : K (nI (nd S p)) M) : wX1_needOf M k (nI p) K := by
  obtain ⟨h1, h2, h3, h4⟩ := hO p hp
  refine s_slipsOf hp (s_triesOf hp ?_)
  rw [(hR p hp).1, (hR p hp).2, h1, h2]
  have e0 : (if nI (sT S p) < (0 : Int32) then (0 : Int32) else nI (sT S p)) = nI (sT S p) := if_neg (nI_pos (by omega))
  have e : nI (sT S p) + (2 : Int32) = nI (sT S p + 2) := nI_add _ 2
  have e2 : (100 : Int32) * nI (sS S p) = nI (100 * sS S p) := pk_mul 100 _
  rw [e0, e, e2]
  refine ⟨nI_ne0 (by omega) (by omega), ?_⟩
  rw [pk_div (by omega) (by omega) (by omega)]
  exact h
theorem s_isUntried (hR : PR M k S) (hp : p < 702) (h1 : S (6 + p) = 0 → K 1 M) (h0 : ¬ S (6 + p) = 0 → K 0 M) : wX1_isUntried M k (nI p) K := by
  refine s_triesOf hp ?_
  rw [(hR p hp).1]
  exact ⟨h1, h0⟩
theorem s_needOfAll (hR : PR M k S) (hO : OkP S) (hW : WR M q c n) (hn : n ≤ 15) (hc : ∀ i, i < n → c i < 26) (h : K (nI (sumTo (fun i => nd S ((ptF c n).getD i 0)) (ptF c n).length)) M) : wX1_needOfAll M k q K := by
  have hl := ptF_len c n
  have hlt := ptF_lt n hc
  refine ⟨_, p_loop0 (fun f i => wX1_needOfAll_L4 k q (fun M9 x2_10 x3_11 => K x2_10 M9) f M (nI (sumTo (fun i => nd S ((ptF c n).getD i 0)) i)) (nI i)) (ptF c n).length ?_ ?_⟩
  · intro f; exact br_t (by rw [hW.2.2.1]; exact nI_le (by omega) (by omega)) h
  · intro f i hi ih
    refine br_f (by rw [hW.2.2.1]; exact nI_ge hi (by omega)) ⟨pk_in i 29 (by omega), ?_⟩
    rw [nI_clamp (by omega), hW.2.2.2 i hi]
    refine s_needOf hR hO (getD_lt hlt hi) ?_
    rw [nI_add, nI_add1]; exact ih
theorem s_greatestNeedOf (hR : PR M k S) (hO : OkP S) (hW : WR M q c n) (hn : n ≤ 15) (hc : ∀ i, i < n → c i < 26) (h : K (nI (maxTo (fun i => nd S ((ptF c n).getD i 0)) (ptF c n).length)) M) : wX1_greatestNeedOf M k q K := by
  have hl := ptF_len c n
  have hlt := ptF_lt n hc
  refine ⟨_, p_loop0 (fun f i => wX1_greatestNeedOf_L4 k q (fun M9 x2_10 x3_11 => K x2_10 M9) f M (nI (maxTo (fun i => nd S ((ptF c n).getD i 0)) i)) (nI i)) (ptF c n).length ?_ ?_⟩
  · intro f; exact br_t (by rw [hW.2.2.1]; exact nI_le (by omega) (by omega)) h
  · intro f i hi ih
    refine br_f (by rw [hW.2.2.1]; exact nI_ge hi (by omega)) ⟨pk_in i 29 (by omega), ?_⟩
    rw [nI_clamp (by omega), hW.2.2.2 i hi]
    refine s_needOf hR hO (getD_lt hlt hi) ?_
    have b1 : maxTo (fun i => nd S ((ptF c n).getD i 0)) i ≤ 99 := maxTo_le i (fun j hj => nd_le hO (getD_lt hlt (by omega)))
    have b2 := nd_le hO (getD_lt hlt hi)
    rw [nI_max _ _ (by omega) (by omega), nI_add1]; exact ih
theorem s_untriedOf (hR : PR M k S) (hW : WR M q c n) (hn : n ≤ 15) (hc : ∀ i, i < n → c i < 26) (h : K (nI (sumTo (fun i => if S (6 + (ptF c n).getD i 0) = 0 then 1 else 0) (ptF c n).length)) M) : wX1_untriedOf M k q K := by
  have hl := ptF_len c n
  have hlt := ptF_lt n hc
  refine ⟨_, p_loop0 (fun f i => wX1_untriedOf_L4 k q (fun M9 x2_10 x3_11 => K x2_10 M9) f M (nI (sumTo (fun i => if S (6 + (ptF c n).getD i 0) = 0 then 1 else 0) i)) (nI i)) (ptF c n).length ?_ ?_⟩
  · intro f; exact br_t (by rw [hW.2.2.1]; exact nI_le (by omega) (by omega)) h
  · intro f i hi ih
    refine br_f (by rw [hW.2.2.1]; exact nI_ge hi (by omega)) ⟨pk_in i 29 (by omega), ?_⟩
    rw [nI_clamp (by omega), hW.2.2.2 i hi]
    simp only [sumTo] at ih
    refine s_isUntried hR (getD_lt hlt hi) (fun z => br_f (by decide) ?_) (fun z => br_t rfl ?_)
    · rw [if_pos z] at ih; rw [nI_add1, nI_add1]; exact ih
    · rw [if_neg z] at ih; rw [nI_add1]; exact ih
theorem s_greatestNeedFrom {a b : Nat} (hR : PR M k S) (hO : OkP S) (hab : a ≤ b) (hb : b ≤ 702) (h : K (nI (maxTo (fun i => nd S (a + i)) (b - a))) M) : wX1_greatestNeedFrom M k (nI a) (nI b) K := by
  refine ⟨_, p_loop0 (fun f i => wX1_greatestNeedFrom_L5 k (nI b) (fun M8 x3_9 x4_10 => K x3_9 M8) f M (nI (maxTo (fun i => nd S (a + i)) i)) (nI (a + i))) (b - a) ?_ ?_⟩
  · intro f; exact br_t (nI_le (by omega) (by omega)) h
  · intro f i hi ih
    refine br_f (nI_ge (by omega) (by omega)) ?_
    refine s_needOf hR hO (by omega) ?_
    have b1 : maxTo (fun i => nd S (a + i)) i ≤ 99 := maxTo_le i (fun j hj => nd_le hO (by omega))
    have b2 := nd_le hO (p := a + i) (by omega)
    rw [nI_max _ _ (by omega) (by omega), nI_add1]; exact ih
theorem s_triedFrom {a b : Nat} (hR : PR M k S) (hab : a ≤ b) (hb : b ≤ 702) (h : K (nI (sumTo (fun i => if S (6 + (a + i)) = 0 then 0 else 1) (b - a))) M) : wX1_triedFrom M k (nI a) (nI b) K := by
  refine ⟨_, p_loop0 (fun f i => wX1_triedFrom_L5 k (nI b) (fun M8 x3_9 x4_10 => K x3_9 M8) f M (nI (sumTo (fun i => if S (6 + (a + i)) = 0 then 0 else 1) i)) (nI (a + i))) (b - a) ?_ ?_⟩
  · intro f; exact br_t (nI_le (by omega) (by omega)) h
  · intro f i hi ih
    refine br_f (nI_ge (by omega) (by omega)) ?_
    simp only [sumTo] at ih
    refine s_isUntried hR (by omega) (fun z => br_f (by decide) ?_) (fun z => br_t rfl ?_)
    · rw [if_pos z] at ih; rw [nI_add1]; exact ih
    · rw [if_neg z] at ih; rw [nI_add1, nI_add1]; exact ih
theorem s_has (hW : WR M q c n) (hn : n ≤ 15) (hc : ∀ i, i < n → c i < 26) (hp : p < 702) (h1 : p ∈ ptF c n → K 1 M) (h0 : p ∉ ptF c n → K 0 M) : wX6_has M q (nI p) K := by
  have hl := ptF_len c n
  have hlt := ptF_lt n hc
  refine ⟨_, p_loop0 (fun f i => (∀ j, j < i → (ptF c n).getD j 0 ≠ p) → wX6_has_L2 q (nI p) K (fun M7 x2_8 => K 0 M7) f M (nI i)) (ptF c n).length ?_ ?_ (fun j hj => absurd hj (by omega))⟩
  · intro f hno
    refine br_t (by rw [hW.2.2.1]; exact nI_le (by omega) (by omega)) (h0 fun hm => ?_)
    obtain ⟨i, hi, e⟩ := mem_iff_getD.mp hm
    exact hno i hi e
  · intro f i hi ih hno
    refine br_f (by rw [hW.2.2.1]; exact nI_ge hi (by omega)) ⟨pk_in i 29 (by omega), ?_⟩
    rw [nI_clamp (by omega), hW.2.2.2 i hi]
    have hb := getD_lt hlt hi
    refine pk_eq ((ptF c n).getD i 0) p (fun z => h1 (mem_iff_getD.mpr ⟨i, hi, z⟩)) (fun z => ?_)
    rw [nI_add1]
    refine ih (fun j hj => ?_)
    rcases Nat.lt_or_ge j i with z1 | z1
    · exact hno j z1
    · obtain rfl : j = i := by omega
      exact z
theorem s_howManyHave (hL : LR M k S) (hN : sN S ≤ 20) (hS5 : S 5 = nI (sN S)) (hO : ∀ w, w < sN S → OkW S w) (hp : p < 702) (h : K (nI (sumTo (fun w => if p ∈ sPt S w then 1 else 0) (sN S))) M) : wX7_howManyHave M k (nI p) K := by
  refine ⟨_, p_loop0 (fun f i => wX7_howManyHave_L4 k (nI p) (fun M10 x2_11 x3_12 => K x2_11 M10) f M (nI (sumTo (fun w => if p ∈ sPt S w then 1 else 0) i)) (nI i)) (sN S) ?_ ?_⟩
  · intro f; exact br_t (by rw [hL.1, hS5]; exact nI_le (by omega) (by omega)) h
  · intro f i hi ih
    refine br_f (by rw [hL.1, hS5]; exact nI_ge hi (by omega)) ⟨pk_in i 20 (by omega), ?_⟩
    rw [nI_clamp (by omega)]
    have ho := hO i hi
    simp only [sumTo] at ih
    refine s_has (hL.2 i hi) ho.2.2.1 (fun j hj => (ho.2.2.2 j hj).2) hp (fun z => br_f (by decide) ?_) (fun z => br_t rfl ?_)
    · rw [if_pos (show p ∈ sPt S i from z)] at ih; rw [nI_add1, nI_add1]; exact ih
    · rw [if_neg (show p ∉ sPt S i from z)] at ih; rw [nI_add1]; exact ih
/-- the greatest need of the words' parts -/
def gnW (S : gR) (w : Nat) : Nat := maxTo (fun i => nd S ((sPt S w).getD i 0)) (sPt S w).length
theorem gnW_le {w : Nat} (hO : OkP S) (ho : OkW S w) : gnW S w ≤ 99 := maxTo_le _ (fun j hj => nd_le hO (getD_lt (ptF_lt _ (fun i hi => (ho.2.2.2 i hi).2)) hj))
theorem s_greatestNeedOfWords (hR : PR M k S) (hOP : OkP S) (hL : LR M k S) (hN : sN S ≤ 20) (hS5 : S 5 = nI (sN S)) (hO : ∀ w, w < sN S → OkW S w) (h : K (nI (maxTo (gnW S) (sN S))) M) : wX4_greatestNeedOfWords M k K := by
  refine ⟨_, p_loop0 (fun f i => wX4_greatestNeedOfWords_L4 k (fun M10 x2_11 x3_12 => K x2_11 M10) f M (nI (maxTo (gnW S) i)) (nI i)) (sN S) ?_ ?_⟩
  · intro f; exact br_t (by rw [hL.1, hS5]; exact nI_le (by omega) (by omega)) h
  · intro f i hi ih
    refine br_f (by rw [hL.1, hS5]; exact nI_ge hi (by omega)) ⟨pk_in i 20 (by omega), ?_⟩
    rw [nI_clamp (by omega)]
    have ho := hO i hi
    refine s_greatestNeedOf hR hOP (hL.2 i hi) ho.2.2.1 (fun j hj => (ho.2.2.2 j hj).2) ?_
    have b1 : maxTo (gnW S) i ≤ 99 := maxTo_le i (fun j hj => gnW_le hOP (hO j (by omega)))
    have b2 := gnW_le hOP ho
    unfold gnW sPt at b2
    rw [nI_max _ _ (by omega) (by omega), nI_add1]; exact ih
theorem s_at {K : Option Nat → gW → Prop} {a : Int32} (hL : LR M k S) (hN : sN S ≤ 20) (hS5 : S 5 = nI (sN S)) (h0 : (a < 0 ∨ nI (sN S) ≤ a) → K none M) (h1 : ∀ w, w < sN S → a = nI w → K (some (20 * k + w)) M) : wX7_at M k a K := by
  refine ⟨fun z => h0 (Or.inl z), fun z => ?_⟩
  rw [hL.1, hS5]
  refine ⟨fun z2 => h0 (Or.inr z2), fun z2 => ?_⟩
  rcases pk_ix a (n := sN S) (by omega) with y | y | ⟨w, hw, rfl⟩
  · exact absurd y z
  · exact absurd y z2
  · exact ⟨pk_in w 20 (by omega), by rw [nI_clamp (by omega)]; exact h1 w hw rfl⟩
/-- letters alone -/
def LW (M : gW) (q : Nat) (c : Nat → Nat) (n : Nat) : Prop := M 7 q 2 = nI n ∧ ∀ j, j < n → M 8 q j = nI (c j)
theorem WR.lw (h : WR M q c n) : LW M q c n := ⟨h.1, h.2.1⟩
theorem s_isSpelledAs {q2 n2 : Nat} {c2 : Nat → Nat} (h1 : LW M q c n) (h2 : LW M q2 c2 n2) (hn : n ≤ 15) (hn2 : n2 ≤ 15) (hc : ∀ i, i < n → c i < 26) (hc2 : ∀ i, i < n2 → c2 i < 26) (hy : (n = n2 ∧ ∀ i, i < n → c i = c2 i) → K 1 M) (hno : ¬ (n = n2 ∧ ∀ i, i < n → c i = c2 i) → K 0 M) : wX6_isSpelledAs M q q2 K := by
  unfold wX6_isSpelledAs
  rw [h1.1, h2.1]
  refine pk_eq n n2 (fun e => ?_) (fun e => hno (fun z => e z.1))
  subst e
  refine ⟨_, p_loop0 (fun f i => (∀ j, j < i → c j = c2 j) → wX6_isSpelledAs_L15 q q2 K (fun M9 x2_10 => K 1 M9) f M (nI i)) n ?_ ?_ (fun j hj => absurd hj (by omega))⟩
  · intro f hall
    exact br_t (by rw [h1.1]; exact nI_le (by omega) (by omega)) (hy ⟨rfl, hall⟩)
  · intro f i hi ih hall
    refine br_f (by rw [h1.1]; exact nI_ge hi (by omega)) ⟨pk_in i 15 (by omega), pk_in i 15 (by omega), ?_⟩
    rw [nI_clamp (by omega), h1.2 i hi, h2.2 i hi]
    have := hc i hi
    have := hc2 i hi
    refine pk_eq (c i) (c2 i) (fun z => ?_) (fun z => hno (fun y => z (y.2 i hi)))
    rw [nI_add1]
    refine ih (fun j hj => ?_)
    rcases Nat.lt_or_ge j i with z1 | z1
    · exact hall j z1
    · obtain rfl : j = i := by omega
      exact z
end CL
