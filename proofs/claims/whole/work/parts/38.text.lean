/-! ===== LAYER 2: the class's texts ===== -/
def isL (x : Int32) : Bool := decide (¬ x < 97) && decide (¬ 122 < x)
def lt (t : Nat → Int32) (i : Nat) : Nat := (t i - 97).toNatClampNeg
theorem isL_nI {x : Int32} (h : isL x = true) : ∃ l, l < 26 ∧ x = nI (97 + l) ∧ x - 97 = nI l := by
  unfold isL at h
  rw [Bool.and_eq_true] at h
  have h1 := of_decide_eq_true h.1
  have h2 := of_decide_eq_true h.2
  have h0 : ¬ x < 0 := fun z => h1 (Int32.lt_trans z (by decide))
  obtain ⟨j, hj, rfl⟩ := nI_of h0
  have g1 : ¬ j < 97 := fun z => h1 ((nI_ltI (b := 97) (by omega) (by omega)).mpr z)
  have g2 : ¬ 122 < j := fun z => h2 ((nI_ltI (a := 122) (by omega) (by omega)).mpr z)
  refine ⟨j - 97, by omega, by congr 1; omega, ?_⟩
  exact pk_sub (b := 97) (by omega)
theorem lt_of {t : Nat → Int32} {i : Nat} (h : isL (t i) = true) : lt t i < 26 ∧ t i - 97 = nI (lt t i) := by
  obtain ⟨l, h1, h2, h3⟩ := isL_nI h
  have e : lt t i = l := by unfold lt; rw [h3]; exact nI_clamp (by omega)
  rw [e]; exact ⟨h1, h3⟩
/-- the text is the first n signs of t -/
def TR (M : gW) (t : Nat → Int32) (n : Nat) : Prop := M 12 0 2 = nI n ∧ n ≤ 60 ∧ ∀ i, i < n → M 13 0 i = t i
theorem TR.fr {P : Nat → Nat → Prop} {M M' : gW} {t : Nat → Int32} {n : Nat} (h : TR M t n) (hF : Fr P M M') (h12 : ¬ P 12 0) (h13 : ¬ P 13 0) : TR M' t n := by
  unfold TR at h ⊢; rw [hF 12 0 h12, hF 13 0 h13]; exact h
def mayB (x b : Int32) (l : Nat) : Bool := if x = 33 then isL b else if x = 45 then (decide (¬ b = 45) && decide (l < 15)) else (isL x && decide (l < 15))
/-- the fault of a written word: d signs are left, the next is i, the one ahead of it b, l letters so far -/
def fltT (t : Nat → Int32) : Nat → Nat → Int32 → Nat → Option Nat
  | 0, i, b, _ => if b = 45 then some i else none
  | d + 1, i, b, l => if mayB (t i) b l = true then fltT t d (i + 1) (t i) (if isL (t i) = true then l + 1 else l) else some i
def stepW (l : Nat) (x : Int32) : Option Nat := if isL x = true ∧ l < 15 then some (l + 1) else if x = 44 ∧ 0 < l then some 0 else none
/-- the fault of words -/
def fltW (t : Nat → Int32) : Nat → Nat → Nat → Option Nat
  | 0, i, l => if l = 0 then some i else none
  | d + 1, i, l => match stepW l (t i) with
    | some l' => fltW t d (i + 1) l'
    | none => some i
def oF (x : Int32) : Option Nat → Int32
  | none => x
  | some i => nI i
theorem mayB_l {x b : Int32} {l : Nat} (h : mayB x b l = true) (h15 : l ≤ 15) : (if isL x = true then l + 1 else l) ≤ 15 := by
  by_cases hL : isL x = true
  · rw [if_pos hL]
    obtain ⟨j, h1, h2, -⟩ := isL_nI hL
    unfold mayB at h
    rw [if_neg (by rw [h2]; exact fun z => absurd ((nI_eq (b := 33) (by omega) (by omega)).mp z) (by omega)), if_neg (by rw [h2]; exact fun z => absurd ((nI_eq (b := 45) (by omega) (by omega)).mp z) (by omega)), Bool.and_eq_true] at h
    have := of_decide_eq_true h.2
    omega
  · rw [if_neg hL]; exact h15
section TX
variable {M M' : gW} {k n : Nat} {S : gR} {t : Nat → Int32}
theorem s_isLetter {K : Int32 → gW → Prop} {x : Int32} (h : K (b2 (isL x)) M) : wX8_isLetter M x K := by
  unfold isL at h
  refine ⟨fun z => ?_, fun z => ⟨fun y => ?_, fun y => ?_⟩⟩
  · rw [decide_eq_false (fun w => w z)] at h; exact h
  · rw [decide_eq_true z, decide_eq_false (fun w => w y)] at h; exact h
  · rw [decide_eq_true z, decide_eq_true y] at h; exact h
theorem b2_01 (b : Bool) : b2 b = 0 ∨ b2 b = 1 := by cases b <;> decide
theorem s_mayBeWritten {K : Int32 → gW → Prop} {x b : Int32} {l : Nat} (hl : l ≤ 15) (h : K (b2 (mayB x b l)) M) : wX5_mayBeWritten M x b (nI l) K := by
  unfold mayB at h
  refine ⟨fun z => ?_, fun z => ⟨fun y => ⟨fun w => ?_, fun w => ?_⟩, fun y => ?_⟩⟩
  · rw [if_pos z] at h
    exact s_isLetter ⟨b2_01 _, h⟩
  · rw [if_neg z, if_pos y, decide_eq_false (fun v => v w), Bool.false_and] at h; exact h
  · rw [if_neg z, if_pos y, decide_eq_true w, Bool.true_and] at h
    refine pk_le 15 l (fun v => ?_) (fun v => ?_)
    · rw [decide_eq_false (by omega)] at h; exact h
    · rw [decide_eq_true v] at h; exact h
  · rw [if_neg z, if_neg y] at h
    refine s_isLetter ?_
    cases hx : isL x with
    | false => rw [hx, Bool.false_and] at h; exact br_t rfl h
    | true =>
      rw [hx, Bool.true_and] at h
      refine br_f (by decide) (pk_le 15 l (fun v => ?_) (fun v => ?_))
      · rw [decide_eq_false (by omega)] at h; exact h
      · rw [decide_eq_true v] at h; exact h
theorem s_faultAsWritten {K : Int32 → gW → Prop} (hT : TR M t n) (h : K (oF (-1) (fltT t n 0 45 0)) M) : wX5_faultAsWritten M K := by
  have hn := hT.2.1
  have key : ∀ d i b l, i + d = n → l ≤ 15 → K (oF (-1) (fltT t d i b l)) M → wX5_faultAsWritten_L7 K (fun M14 x1_15 x2_16 x3_17 => ((x1_15 = (45 : Int32) → (K (M14 12 0 2) M14)) ∧ (¬ (x1_15 = (45 : Int32)) → (K (-1 : Int32) M14)))) (d + 1) M b (nI l) (nI i) := by
    intro d
    induction d with
    | zero =>
      intro i b l hi hl hk
      obtain rfl : i = n := by omega
      refine br_t (by rw [hT.1]; exact nI_le (Nat.le_refl _) (by omega)) ⟨fun z => ?_, fun z => ?_⟩
      · unfold fltT at hk; rw [if_pos z] at hk; rw [hT.1]; exact hk
      · unfold fltT at hk; rw [if_neg z] at hk; exact hk
    | succ d ih =>
      intro i b l hi hl hk
      refine br_f (by rw [hT.1]; exact nI_ge (by omega) (by omega)) ⟨pk_in i 60 (by omega), ?_⟩
      rw [nI_clamp (by omega), hT.2.2 i (by omega)]
      unfold fltT at hk
      refine s_mayBeWritten hl ?_
      cases hm : mayB (t i) b l with
      | false => rw [if_neg (by rw [hm]; decide)] at hk; exact br_t rfl hk
      | true =>
        rw [if_pos hm] at hk
        have h15 := mayB_l hm hl
        refine br_f (by decide) (s_isLetter ?_)
        rw [nI_add1, nI_add1]
        cases hx : isL (t i) with
        | false => rw [if_neg (by rw [hx]; decide)] at hk; exact br_t rfl (ih (i + 1) (t i) l (by omega) hl hk)
        | true => rw [if_pos hx] at hk h15; exact br_f (by decide) (ih (i + 1) (t i) (l + 1) (by omega) h15 hk)
  exact ⟨_, key n 0 45 0 (by omega) (by omega) h⟩
theorem s_faultAsWords {K : Int32 → gW → Prop} (hT : TR M t n) (h : K (oF (-1) (fltW t n 0 0)) M) : wX5_faultAsWords M K := by
  have hn := hT.2.1
  have key : ∀ d i l, i + d = n → l ≤ 15 → K (oF (-1) (fltW t d i l)) M → wX5_faultAsWords_L4 K (fun M17 x1_18 x2_19 => ((x1_18 = 0 → (K (M17 12 0 2) M17)) ∧ (¬ (x1_18 = 0) → (K (-1 : Int32) M17)))) (d + 1) M (nI l) (nI i) := by
    intro d
    induction d with
    | zero =>
      intro i l hi hl hk
      obtain rfl : i = n := by omega
      refine br_t (by rw [hT.1]; exact nI_le (Nat.le_refl _) (by omega)) (pk_eq l 0 (fun z => ?_) (fun z => ?_))
      · unfold fltW at hk; rw [if_pos z] at hk; rw [hT.1]; exact hk
      · unfold fltW at hk; rw [if_neg z] at hk; exact hk
    | succ d ih =>
      intro i l hi hl hk
      refine br_f (by rw [hT.1]; exact nI_ge (by omega) (by omega)) ⟨pk_in i 60 (by omega), ?_⟩
      rw [nI_clamp (by omega)]
      have e := hT.2.2 i (by omega)
      rw [e]
      unfold fltW stepW at hk
      have comma : ¬ (isL (t i) = true ∧ l < 15) → (t i = (44 : Int32) → ((nI l ≤ 0 → K (nI i) M) ∧ (¬ nI l ≤ 0 → wX5_faultAsWords_L4 K (fun M17 x1_18 x2_19 => ((x1_18 = 0 → (K (M17 12 0 2) M17)) ∧ (¬ (x1_18 = 0) → (K (-1 : Int32) M17)))) (d + 1) M (0 : Int32) (nI i + 1)))) ∧ (¬ t i = (44 : Int32) → K (nI i) M) := by
        intro hno
        rw [if_neg hno] at hk
        refine ⟨fun z => pk_le l 0 (fun y => ?_) (fun y => ?_), fun z => ?_⟩
        · rw [if_neg (by omega)] at hk; exact hk
        · rw [if_pos ⟨z, y⟩] at hk; rw [nI_add1]; exact ih (i + 1) 0 (by omega) (by omega) hk
        · rw [if_neg (fun y => z y.1)] at hk; exact hk
      refine s_isLetter ?_
      rw [e]
      cases hx : isL (t i) with
      | false => exact br_t rfl ⟨pk_in i 60 (by omega), comma (fun z => by rw [hx] at z; exact absurd z.1 (by decide))⟩
      | true =>
        refine br_f (by decide) (pk_le 15 l (fun z => ⟨pk_in i 60 (by omega), comma (fun y => absurd y.2 (by omega))⟩) (fun z => ?_))
        rw [if_pos ⟨hx, z⟩] at hk
        rw [nI_add1, nI_add1]
        exact ih (i + 1) (l + 1) (by omega) (by omega) hk
  exact ⟨_, key n 0 0 (by omega) (by omega) h⟩
/-! a text of words: each word goes to the list -/
def goC (t : Nat → Int32) : Nat → Nat → Nat → gR → Option gR
  | 0, p, fr, S => addW S (fun j => lt t (fr + j)) (p - fr)
  | d + 1, p, fr, S => if t p = 44 then (match addW S (fun j => lt t (fr + j)) (p - fr) with
      | none => none
      | some S' => goC t d (p + 1) (p + 1) S') else goC t d (p + 1) fr S
theorem addW_ok {c : Nat → Nat} {m : Nat} {S' : gR} (hO : OkL S) (h1 : 1 ≤ m) (hm : m ≤ 15) (hc : ∀ j, j < m → c j < 26) (h : addW S c m = some S') : OkL S' := by
  unfold addW at h
  by_cases ho : onB S c m = true
  · rw [if_pos ho] at h; cases h; exact hO
  · rw [if_neg ho] at h
    by_cases h20 : sN S = 20
    · rw [if_pos h20] at h; cases h
    · rw [if_neg h20] at h; cases h; exact appW_ok hO (by have := hO.1.2; omega) h1 hm hc
def spF (k : Nat) : Nat → Nat → Prop := fun f k' => ownL k f k' ∨ ((f = 7 ∨ f = 8 ∨ f = 9) ∧ k' = 140)
theorem s_spellInto {K : Int32 → gW → Prop} (hk : k < 7) (hT : TR M t n) (hL : LR M k S) (hO : OkL S) (hv : fltW t n 0 0 = none) (hy : ∀ S' M', goC t n 0 0 S = some S' → LR M' k S' → OkL S' → Fr (spF k) M M' → K 1 M') (hno : ∀ M', goC t n 0 0 S = none → Fr (spF k) M M' → K 0 M') : wX5_spellInto M k K := by
  have hn := hT.2.1
  refine s_clearW (c := fun j => lt t (0 + j)) (fun M1 hW1 hF1 => ?_)
  have hF1' : Fr (spF k) M M1 := hF1.mono (fun f k z => Or.inr ⟨Or.inl z.1, z.2⟩)
  have key : ∀ d p fr S1 M2, p + d = n → fr ≤ p → p - fr ≤ 15 → (∀ j, fr ≤ j → j < p → isL (t j) = true) → fltW t d p (p - fr) = none → LR M2 k S1 → OkL S1 → WR M2 140 (fun j => lt t (fr + j)) (p - fr) → Fr (spF k) M M2 → (∀ S' M', goC t d p fr S1 = some S' → LR M' k S' → OkL S' → Fr (spF k) M M' → K 1 M') → (∀ M', goC t d p fr S1 = none → Fr (spF k) M M' → K 0 M') → wX5_spellInto_L9 k K (fun M16 x2_17 => (wX7_take M16 k 140 (fun r19 M18 => ((r19 = 0 ∨ r19 = 1) ∧ (K r19 M18))))) (d + 1) M2 (nI p) := by
    intro d
    induction d with
    | zero =>
      intro p fr S1 M2 hp hfr h15 hl hf hL2 hO2 hW2 hF2 hy2 hno2
      have hT2 := hT.fr hF2 (by unfold spF ownL; omega) (by unfold spF ownL; omega)
      obtain rfl : p = n := by omega
      unfold fltW at hf
      have h1 : ¬ p - fr = 0 := fun z => by rw [if_pos z] at hf; cases hf
      have hc : ∀ i, i < p - fr → lt t (fr + i) < 26 := fun i hi => (lt_of (hl (fr + i) (by omega) (by omega))).1
      refine br_t (by rw [hT2.1]; exact nI_le (Nat.le_refl _) (by omega)) (s_take hk hL2 hO2 hW2 (by omega) h15 hc (fun S' M3 e hL3 hF3 => ⟨Or.inr rfl, ?_⟩) (fun e => ⟨Or.inl rfl, ?_⟩))
      · exact hy2 S' M3 e hL3 (addW_ok hO2 (by omega) h15 hc e) (hF2.tr (hF3.mono (fun f k z => Or.inl z)))
      · exact hno2 M2 e hF2
    | succ d ih =>
      intro p fr S1 M2 hp hfr h15 hl hf hL2 hO2 hW2 hF2 hy hno
      have hT2 := hT.fr hF2 (by unfold spF ownL; omega) (by unfold spF ownL; omega)
      have hin : vp_in (nI p) 60 := pk_in p 60 (by omega)
      refine br_f (by rw [hT2.1]; exact nI_ge (by omega) (by omega)) ⟨hin, ?_⟩
      rw [nI_clamp (by omega), hT2.2.2 p (by omega)]
      unfold fltW stepW at hf
      have hc : ∀ i, i < p - fr → lt t (fr + i) < 26 := fun i hi => (lt_of (hl (fr + i) (by omega) (by omega))).1
      have e : goC t (d + 1) p fr S1 = (if t p = 44 then (match addW S1 (fun j => lt t (fr + j)) (p - fr) with | none => none | some S' => goC t d (p + 1) (p + 1) S') else goC t d (p + 1) fr S1) := rfl
      rw [e] at hy hno
      refine ⟨fun z => ?_, fun z => ⟨hin, ?_⟩⟩
      · rw [if_neg (fun y => by rw [z] at y; exact absurd y.1 (by decide))] at hf
        have h0 : 0 < p - fr := by
          rcases Nat.eq_zero_or_pos (p - fr) with y | y
          · rw [if_neg (by omega)] at hf; cases hf
          · exact y
        rw [if_pos ⟨z, h0⟩] at hf
        rw [if_pos z] at hy hno
        refine s_take hk hL2 hO2 hW2 (by omega) h15 hc (fun S' M3 e hL3 hF3 => br_f (by decide) ?_) (fun e => br_t rfl ?_)
        · rw [e] at hy hno
          refine s_clearW (c := fun j => lt t (p + 1 + j)) (fun M4 hW4 hF4 => ?_)
          rw [nI_add1]
          refine ih (p + 1) (p + 1) S' M4 (by omega) (Nat.le_refl _) (by omega) (fun j h1 h2 => absurd h1 (by omega)) (by rw [Nat.sub_self]; exact hf) ?_ (addW_ok hO2 (by omega) h15 hc e) (by rw [Nat.sub_self]; exact hW4) ?_ hy hno
          · exact hL3.fr hF4 (addW_ok hO2 (by omega) h15 hc e).1.2 (by omega) (fun w hw => ⟨by omega, by omega, by omega⟩)
          · exact (hF2.tr (hF3.mono (fun f k z => Or.inl z))).tr (hF4.mono (fun f k z => Or.inr ⟨Or.inl z.1, z.2⟩))
        · rw [e] at hno
          exact hno M2 rfl hF2
      · rw [if_neg z] at hy hno
        have hx : isL (t p) = true ∧ p - fr < 15 := by
          by_cases y : isL (t p) = true ∧ p - fr < 15
          · exact y
          · rw [if_neg y, if_neg (fun w => z w.1)] at hf; cases hf
        rw [if_pos hx] at hf
        have hlt := lt_of hx.1
        unfold wX8_letterNumber
        rw [hlt.2]
        refine s_append (c' := fun j => lt t (fr + j)) hW2 (by omega) hc hlt.1 (fun i hi => rfl) (by congr 1; omega) (fun M3 hW3 hF3 => ?_)
        rw [nI_add1]
        refine ih (p + 1) fr S1 M3 (by omega) (by omega) (by omega) (fun j h1 h2 => ?_) ?_ ?_ hO2 ?_ (hF2.tr (hF3.mono (fun f k z => Or.inr z))) hy hno
        · rcases Nat.lt_or_ge j p with y | y
          · exact hl j h1 y
          · obtain rfl : j = p := by omega
            exact hx.1
        · rw [show p + 1 - fr = p - fr + 1 by omega]; exact hf
        · exact hL2.fr hF3 hO2.1.2 (by omega) (fun w hw => ⟨by omega, by omega, by omega⟩)
        · rw [show p + 1 - fr = p - fr + 1 by omega]; exact hW3
  refine ⟨_, key n 0 0 S M1 (by omega) (Nat.le_refl _) (by omega) (fun j h1 h2 => absurd h2 (by omega)) hv ?_ hO hW1 hF1' hy hno⟩
  exact hL.fr hF1 hO.1.2 (by omega) (fun w hw => ⟨by omega, by omega, by omega⟩)
end TX
