/-! ===== LAYER 2: the class's practice ===== -/
def inc (x : Int32) : Int32 := if (9999 : Int32) ≤ x then x else x + 1
def aT (S : gR) (p : Nat) : gR := upd S (6 + p) (inc (S (6 + p)))
def aS (S : gR) (p : Nat) : gR := upd S (708 + p) (inc (S (708 + p)))
def seqW (c : Nat → Nat) : Nat → List Nat
  | 0 => []
  | j + 1 => seqW c j ++ (if j = 0 then [c j] else [c j, jn (c (j - 1)) (c j)])
theorem upd_self (S : gR) (i : Nat) : upd S i (S i) = S := by
  funext j; rw [upd_at]; split
  · rename_i h; rw [h]
  · rfl
section PC
variable {M M' : gW} {k p q n : Nat} {S T : gR} {c : Nat → Nat}
theorem s_addTry {K : gW → Prop} (hR : PR M k S) (hp : p < 702) (h : ∀ M', PR M' k (aT S p) → Fr (fun f k' => f = 3 ∧ k' = k) M M' → K M') : wX1_addTry M k (nI p) K := by
  refine s_isPart hp (br_f (by decide) ⟨pk_in p 702 hp, ?_⟩)
  rw [nI_clamp (by omega)]
  refine ⟨fun z => ?_, fun z => ⟨pk_in p 702 hp, pk_in p 702 hp, fun M8 e8 => ?_⟩⟩
  · rw [(hR p hp).1] at z
    refine h M ?_ Fr.rf
    unfold aT inc; rw [if_pos z, upd_self]; exact hR
  · rw [(hR p hp).1] at z e8
    refine h M8 (fun x hx => ?_) (Fr.rf.st e8 ⟨rfl, rfl⟩)
    unfold aT inc
    rw [e8, if_neg z, gU_same, gU_o (by decide), upd_at, upd_at, upd_at, if_neg (show ¬ 708 + x = 6 + p by omega)]
    refine ⟨?_, (hR x hx).2⟩
    by_cases hxp : x = p
    · rw [if_pos hxp, if_pos (by omega)]
    · rw [if_neg hxp, if_neg (by omega)]; exact (hR x hx).1
theorem s_addSlip {K : gW → Prop} (hR : PR M k S) (hp : p < 702) (h : ∀ M', PR M' k (aS S p) → Fr (fun f k' => f = 4 ∧ k' = k) M M' → K M') : wX1_addSlip M k (nI p) K := by
  refine s_isPart hp (br_f (by decide) ⟨pk_in p 702 hp, ?_⟩)
  rw [nI_clamp (by omega)]
  refine ⟨fun z => ?_, fun z => ⟨pk_in p 702 hp, pk_in p 702 hp, fun M8 e8 => ?_⟩⟩
  · rw [(hR p hp).2] at z
    refine h M ?_ Fr.rf
    unfold aS inc; rw [if_pos z, upd_self]; exact hR
  · rw [(hR p hp).2] at z e8
    refine h M8 (fun x hx => ?_) (Fr.rf.st e8 ⟨rfl, rfl⟩)
    unfold aS inc
    rw [e8, if_neg z, gU_same, gU_o (by decide), upd_at, upd_at, upd_at, if_neg (show ¬ 6 + x = 708 + p by omega)]
    refine ⟨(hR x hx).1, ?_⟩
    by_cases hxp : x = p
    · rw [if_pos hxp, if_pos (by omega)]
    · rw [if_neg hxp, if_neg (by omega)]; exact (hR x hx).2
theorem s_joinPart {K : Int32 → gW → Prop} {a b : Nat} (h : K (nI (jn a b)) M) : wX8_joinPart M (nI a) (nI b) K := by
  unfold wX8_joinPart
  have e1 : (26 : Int32) * nI a = nI (26 * a) := pk_mul 26 a
  have e2 : (26 : Int32) + nI (26 * a) = nI (26 + 26 * a) := nI_add 26 _
  rw [e1, e2, nI_add]; exact h
theorem s_addTriesOf {K : gW → Prop} (hR : PR M k S) (hW : LW M q c n) (hn : n ≤ 15) (hc : ∀ i, i < n → c i < 26) (h : ∀ M', PR M' k ((seqW c n).foldl aT S) → Fr (fun f k' => f = 3 ∧ k' = k) M M' → K M') : wX1_addTriesOf M k q K := by
  refine ⟨_, p_loop0 (fun f i => ∀ M2, PR M2 k ((seqW c i).foldl aT S) → Fr (fun f k' => f = 3 ∧ k' = k) M M2 → wX1_addTriesOf_L2 k q (fun M13 x2_14 => K M13) f M2 (nI i)) n ?_ ?_ M hR Fr.rf⟩
  · intro f M2 hR2 hF2
    exact br_t (by rw [hF2 7 q (by omega), hW.1]; exact nI_le (by omega) (by omega)) (h M2 hR2 hF2)
  · intro f i hi ih M2 hR2 hF2
    refine br_f (by rw [hF2 7 q (by omega), hW.1]; exact nI_ge hi (by omega)) ⟨pk_in i 15 (by omega), ?_⟩
    rw [nI_clamp (by omega), hF2 8 q (by omega), hW.2 i hi]
    have hci := hc i hi
    refine s_addTry hR2 (by omega) (fun M3 hR3 hF3 => ?_)
    have hF := hF2.tr hF3
    refine pk_le i 0 (fun z => ?_) (fun z => ?_)
    · rw [nI_add1]
      obtain rfl : i = 0 := by omega
      exact ih M3 hR3 hF
    · have e1 : nI i - (1 : Int32) = nI (i - 1) := pk_sub (b := 1) (by omega)
      rw [e1]
      refine ⟨pk_in (i - 1) 15 (by omega), pk_in i 15 (by omega), ?_⟩
      rw [nI_clamp (by omega), hF 8 q (by omega), hW.2 i hi, hW.2 (i - 1) (by omega)]
      refine s_joinPart ?_
      refine s_addTry hR3 (jn_lt (hc (i - 1) (by omega)) hci) (fun M4 hR4 hF4 => ?_)
      rw [nI_add1]
      refine ih M4 ?_ (hF.tr hF4)
      simp only [seqW, if_neg (show ¬ i = 0 by omega), List.foldl_append, List.foldl_cons, List.foldl_nil]
      exact hR4
/-! weeks -/
def fdP (S : gR) (a : Int32) : gR := fun i => if 6 ≤ i ∧ i < 1410 then S i >>> (a &&& 31) else S i
def fdN (S : gR) (a : Int32) (p : Nat) : Nat := if S (6 + p) ≤ 0 then 0 else if S (6 + p) >>> (a &&& 31) = 0 then 1 else 0
theorem s_fade {K : Int32 → gW → Prop} {a : Int32} (hR : PR M k S) (h : ∀ M', PR M' k (fdP S a) → Fr (fun f k' => (f = 3 ∨ f = 4) ∧ k' = k) M M' → K (nI (sumTo (fdN S a) 702)) M') : wX1_fade M k a K := by
  refine ⟨_, p_loop0 (fun f i => ∀ M2, (∀ p, p < 702 → M2 3 k p = (if p < i then S (6 + p) >>> (a &&& 31) else S (6 + p)) ∧ M2 4 k p = (if p < i then S (708 + p) >>> (a &&& 31) else S (708 + p))) → Fr (fun f k' => (f = 3 ∨ f = 4) ∧ k' = k) M M2 → wX1_fade_L4 k a (fun M26 x2_27 x3_28 => K x2_27 M26) f M2 (nI (sumTo (fdN S a) i)) (nI i)) 702 ?_ ?_ M (fun p hp => ?_) Fr.rf⟩
  · intro f M2 hr hF2
    refine br_t (nI_le (a := 702) (b := 702) (by omega) (by omega)) (h M2 (fun p hp => ?_) hF2)
    have := hr p hp
    rw [if_pos hp, if_pos hp] at this
    unfold fdP
    rw [if_pos (by omega), if_pos (by omega)]; exact this
  · intro f i hi ih M2 hr hF2
    have key : ∀ M4, M4 = gU (gU M2 3 k (upd (M2 3 k) i (M2 3 k i >>> (a &&& 31)))) 4 k (upd (M2 4 k) i (M2 4 k i >>> (a &&& 31))) → (∀ p, p < 702 → M4 3 k p = (if p < i + 1 then S (6 + p) >>> (a &&& 31) else S (6 + p)) ∧ M4 4 k p = (if p < i + 1 then S (708 + p) >>> (a &&& 31) else S (708 + p))) ∧ Fr (fun f k' => (f = 3 ∨ f = 4) ∧ k' = k) M M4 := by
      intro M4 e4
      refine ⟨fun p hp => ?_, (hF2.st rfl ⟨Or.inl rfl, rfl⟩).st e4 ⟨Or.inr rfl, rfl⟩⟩
      have h0 := hr p hp
      rw [e4, gU_o (by decide), gU_same, gU_same, upd_at, upd_at]
      by_cases hpi : p = i
      · subst hpi
        rw [if_neg (by omega), if_neg (by omega)] at h0
        rw [if_pos rfl, if_pos rfl, if_pos (by omega), if_pos (by omega), h0.1, h0.2]; exact ⟨rfl, rfl⟩
      · rw [if_neg hpi, if_neg hpi, h0.1, h0.2]
        by_cases hlt : p < i
        · rw [if_pos hlt, if_pos hlt, if_pos (by omega), if_pos (by omega)]; exact ⟨rfl, rfl⟩
        · rw [if_neg hlt, if_neg hlt, if_neg (by omega), if_neg (by omega)]; exact ⟨rfl, rfl⟩
    have h0 := hr i hi
    rw [if_neg (by omega), if_neg (by omega)] at h0
    have hin : vp_in (nI i) 702 := pk_in i 702 hi
    refine br_f (nI_ge (a := i) (b := 702) hi (by omega)) ⟨hin, ?_⟩
    rw [nI_clamp (by omega)]
    have e : sumTo (fdN S a) (i + 1) = sumTo (fdN S a) i + fdN S a i := rfl
    refine ⟨fun z => ⟨hin, hin, fun M10 e10 => ⟨hin, hin, fun M14 e14 => ?_⟩⟩, fun z => ⟨hin, hin, fun M18 e18 => ⟨hin, hin, fun M22 e22 => ⟨hin, ?_⟩⟩⟩⟩
    · rw [e10, gU_o (by decide)] at e14
      obtain ⟨k1, k2⟩ := key M14 e14
      rw [h0.1] at z
      have e2 : fdN S a i = 0 := by unfold fdN; rw [if_pos z]
      rw [e, e2] at ih
      rw [nI_add1]
      exact ih M14 k1 k2
    · rw [e18, gU_o (by decide)] at e22
      obtain ⟨k1, k2⟩ := key M22 e22
      have k3 := (k1 i hi).1
      rw [if_pos (by omega)] at k3
      rw [h0.1] at z
      rw [k3]
      refine ⟨fun y => ?_, fun y => ?_⟩
      · have e2 : fdN S a i = 1 := by unfold fdN; rw [if_neg z, if_pos y]
        rw [e, e2] at ih
        rw [nI_add1, nI_add1]; exact ih M22 k1 k2
      · have e2 : fdN S a i = 0 := by unfold fdN; rw [if_neg z, if_neg y]
        rw [e, e2] at ih
        rw [nI_add1]; exact ih M22 k1 k2
  · rw [if_neg (by omega), if_neg (by omega)]; exact hR p hp
end PC
