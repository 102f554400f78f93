/-! ===== LAYER 2: a written word's marks ===== -/
def bM (t : Nat → Int32) (n i : Nat) : Bool := decide (i + 1 < n ∧ t (i + 1) = 33)
def bI (t : Nat → Int32) (n i : Nat) : Nat := if bM t n i = true then i + 2 else i + 1
def bJ (t : Nat → Int32) (n i : Nat) : Bool := decide (bI t n i < n ∧ t (bI t n i) = 45)
def bE (t : Nat → Int32) (n i : Nat) : Nat := if bJ t n i = true then bI t n i + 1 else bI t n i
/-- the letters of a text: number, marked, join marked -/
def bsF (t : Nat → Int32) (n : Nat) : Nat → Nat → List (Nat × Bool × Bool)
  | 0, _ => []
  | f + 1, i => if n ≤ i then [] else (lt t i, bM t n i, bJ t n i) :: bsF t n f (bE t n i)
def letS (S : gR) (last : Option Nat) (jm : Bool) (l : Nat) : gR := match last with
  | none => aT S l
  | some a => if jm = true then aS (aT (aT S l) (jn a l)) (jn a l) else aT (aT S l) (jn a l)
/-- what the letters do to the practice, in the class's order -/
def eff : List (Nat × Bool × Bool) → Option Nat → Bool → gR → gR
  | [], _, _, S => S
  | b :: bs, last, jm, S => eff bs (some b.1) b.2.2 (if b.2.1 = true then aS (letS S last jm b.1) b.1 else letS S last jm b.1)
def slp : List (Nat × Bool × Bool) → Nat
  | [] => 0
  | b :: bs => (if b.2.1 = true then 1 else 0) + (if b.2.2 = true then 1 else 0) + slp bs
section ST
variable {t : Nat → Int32} {d i l : Nat} {b : Int32}
theorem isL_33 : isL 33 = false := by decide
theorem isL_45 : isL 45 = false := by decide
theorem st_may (h : fltT t (d + 1) i b l = none) : mayB (t i) b l = true ∧ fltT t d (i + 1) (t i) (if isL (t i) = true then l + 1 else l) = none := by
  unfold fltT at h
  by_cases hm : mayB (t i) b l = true
  · rw [if_pos hm] at h; exact ⟨hm, h⟩
  · rw [if_neg hm] at h; cases h
theorem isL_ne {x : Int32} (h : isL x = true) : ¬ x = 33 ∧ ¬ x = 45 := ⟨fun z => (by rw [z, isL_33] at h; cases h), fun z => (by rw [z, isL_45] at h; cases h)⟩
theorem st_letter (h : fltT t (d + 1) i b l = none) (hx : isL (t i) = true) : l < 15 ∧ fltT t d (i + 1) (t i) (l + 1) = none := by
  obtain ⟨h1, h2⟩ := st_may h
  rw [if_pos hx] at h2
  unfold mayB at h1
  rw [if_neg (isL_ne hx).1, if_neg (isL_ne hx).2, Bool.and_eq_true] at h1
  exact ⟨of_decide_eq_true h1.2, h2⟩
theorem st_mark (h : fltT t (d + 1) i b l = none) (hx : t i = 33) : isL b = true ∧ fltT t d (i + 1) 33 l = none := by
  obtain ⟨h1, h2⟩ := st_may h
  rw [hx, if_neg (by rw [isL_33]; decide)] at h2
  unfold mayB at h1
  rw [if_pos hx] at h1
  exact ⟨h1, h2⟩
theorem st_dash (h : fltT t (d + 1) i b l = none) (hx : t i = 45) : fltT t d (i + 1) 45 l = none := by
  obtain ⟨h1, h2⟩ := st_may h
  rw [hx, if_neg (by rw [isL_45]; decide)] at h2
  exact h2
theorem st_else (h : fltT t (d + 1) i b l = none) (h3 : ¬ t i = 33) (h4 : ¬ t i = 45) : isL (t i) = true := by
  obtain ⟨h1, h2⟩ := st_may h
  unfold mayB at h1
  rw [if_neg h3, if_neg h4, Bool.and_eq_true] at h1
  exact h1.1
theorem st_45 (h : fltT t (d + 1) i 45 l = none) : isL (t i) = true := by
  obtain ⟨h1, h2⟩ := st_may h
  refine st_else h (fun z => ?_) (fun z => ?_)
  · have := (st_mark h z).1; rw [isL_45] at this; cases this
  · unfold mayB at h1
    rw [if_neg (by rw [z]; decide), if_pos z, decide_eq_false (fun w => w rfl)] at h1; cases h1
theorem st_end (h : fltT t 0 i 45 l = none) : False := by
  unfold fltT at h; rw [if_pos rfl] at h; cases h
end ST
section MK
variable {M M' : gW} {k n : Nat} {S : gR} {t : Nat → Int32}
def prF (k : Nat) : Nat → Nat → Prop := fun f k' => (f = 3 ∨ f = 4) ∧ k' = k
theorem s_practiseIn {K : Int32 → gW → Prop} (hT : TR M t n) (hR : PR M k S) (hv : fltT t n 0 45 0 = none) (h : ∀ M', PR M' k (eff (bsF t n (n + 1) 0) none false S) → Fr (prF k) M M' → K (nI (slp (bsF t n (n + 1) 0))) M') : wX5_practiseIn M k K := by
  have hn := hT.2.1
  have tr : ∀ {M2}, Fr (prF k) M M2 → TR M2 t n := fun hF => hT.fr hF (by unfold prF; omega) (by unfold prF; omega)
  -- a letter
  have cL : ∀ e i last jm S1 M2 s, i < n → isL (t i) = true → (∀ a, last = some a → a < 26) → PR M2 k S1 → Fr (prF k) M M2 → (∀ M', PR M' k (letS S1 last jm (lt t i)) → Fr (prF k) M M' → wX5_practiseIn_L11 k (fun M19 x2_20 x3_21 x4_22 x5_23 => (K x2_20 M19)) e M' (nI s) (nI (lt t i)) 0 (nI (i + 1))) → wX5_practiseIn_L11 k (fun M19 x2_20 x3_21 x4_22 x5_23 => (K x2_20 M19)) (e + 1) M2 (nI s) (oI last) (b2 jm) (nI i) := by
    intro e i last jm S1 M2 s hi hx hla hR2 hF2 hk
    have hT2 := tr hF2
    have hlt := lt_of hx
    refine br_f (by rw [hT2.1]; exact nI_ge hi (by omega)) ⟨pk_in i 60 (by omega), ?_⟩
    rw [nI_clamp (by omega), hT2.2.2 i hi]
    refine br_f (isL_ne hx).1 (br_f (isL_ne hx).2 ?_)
    unfold wX8_letterNumber
    rw [hlt.2, nI_add1]
    refine s_addTry hR2 (by omega) (fun M3 hR3 hF3 => ?_)
    have hF3' := hF2.tr (hF3.mono (Q := prF k) (fun f k z => ⟨Or.inl z.1, z.2⟩))
    cases last with
    | none => exact br_t rfl (hk M3 hR3 hF3')
    | some a =>
      have ha := hla a rfl
      refine br_f (nI_ne_neg (by omega) (by decide)) (s_joinPart (s_addTry hR3 (jn_lt ha hlt.1) (fun M4 hR4 hF4 => ?_)))
      have hF4' := hF3'.tr (hF4.mono (Q := prF k) (fun f k z => ⟨Or.inl z.1, z.2⟩))
      cases jm with
      | false => exact br_t rfl (hk M4 hR4 hF4')
      | true => exact br_f (by decide) (s_addSlip hR4 (jn_lt ha hlt.1) (fun M5 hR5 hF5 => hk M5 hR5 (hF4'.tr (hF5.mono (fun f k z => ⟨Or.inr z.1, z.2⟩)))))
  have cM : ∀ e i a x4 S1 M2 s, i < n → t i = 33 → a < 26 → PR M2 k S1 → Fr (prF k) M M2 → (∀ M', PR M' k (aS S1 a) → Fr (prF k) M M' → wX5_practiseIn_L11 k (fun M19 x2_20 x3_21 x4_22 x5_23 => (K x2_20 M19)) e M' (nI (s + 1)) (nI a) x4 (nI (i + 1))) → wX5_practiseIn_L11 k (fun M19 x2_20 x3_21 x4_22 x5_23 => (K x2_20 M19)) (e + 1) M2 (nI s) (nI a) x4 (nI i) := by
    intro e i a x4 S1 M2 s hi hx ha hR2 hF2 hk
    have hT2 := tr hF2
    refine br_f (by rw [hT2.1]; exact nI_ge hi (by omega)) ⟨pk_in i 60 (by omega), ?_⟩
    rw [nI_clamp (by omega), hT2.2.2 i hi]
    refine br_t hx (s_addSlip hR2 (by omega) (fun M3 hR3 hF3 => ?_))
    rw [nI_add1, nI_add1]
    exact hk M3 hR3 (hF2.tr (hF3.mono (fun f k z => ⟨Or.inr z.1, z.2⟩)))
  have cD : ∀ e i x3 x4 M2 s, i < n → t i = 45 → Fr (prF k) M M2 → wX5_practiseIn_L11 k (fun M19 x2_20 x3_21 x4_22 x5_23 => (K x2_20 M19)) e M2 (nI (s + 1)) x3 1 (nI (i + 1)) → wX5_practiseIn_L11 k (fun M19 x2_20 x3_21 x4_22 x5_23 => (K x2_20 M19)) (e + 1) M2 (nI s) x3 x4 (nI i) := by
    intro e i x3 x4 M2 s hi hx hF2 hk
    have hT2 := tr hF2
    refine br_f (by rw [hT2.1]; exact nI_ge hi (by omega)) ⟨pk_in i 60 (by omega), ?_⟩
    rw [nI_clamp (by omega), hT2.2.2 i hi]
    refine br_f (by rw [hx]; decide) (br_t hx ?_)
    rw [nI_add1, nI_add1]; exact hk
  have key : ∀ f d i last jm b l S1 M2 s, i + d = n → d ≤ f → fltT t d i b l = none → (0 < d → isL (t i) = true) → (∀ a, last = some a → a < 26) → PR M2 k S1 → Fr (prF k) M M2 → (∀ M', PR M' k (eff (bsF t n (f + 1) i) last jm S1) → Fr (prF k) M M' → K (nI (s + slp (bsF t n (f + 1) i))) M') → wX5_practiseIn_L11 k (fun M19 x2_20 x3_21 x4_22 x5_23 => (K x2_20 M19)) (d + 1) M2 (nI s) (oI last) (b2 jm) (nI i) := by
    intro f
    induction f with
    | zero =>
      intro d i last jm b l S1 M2 s hi hd hf hx hla hR2 hF2 hk
      obtain rfl : d = 0 := by omega
      have hT2 := tr hF2
      have e : bsF t n (0 + 1) i = [] := by show (if n ≤ i then [] else _) = _; rw [if_pos (by omega)]
      rw [e] at hk
      exact br_t (by rw [hT2.1]; exact nI_le (by omega) (by omega)) (hk M2 hR2 hF2)
    | succ f ih =>
      intro d i last jm b l S1 M2 s hi hd hf hx hla hR2 hF2 hk
      cases d with
      | zero =>
        have hT2 := tr hF2
        have e : bsF t n (f + 1 + 1) i = [] := by show (if n ≤ i then [] else _) = _; rw [if_pos (by omega)]
        rw [e] at hk
        exact br_t (by rw [hT2.1]; exact nI_le (by omega) (by omega)) (hk M2 hR2 hF2)
      | succ d =>
        have hxi := hx (by omega)
        obtain ⟨h15, hf1⟩ := st_letter hf hxi
        have hlt := lt_of hxi
        have e : bsF t n (f + 1 + 1) i = (lt t i, bM t n i, bJ t n i) :: bsF t n (f + 1) (bE t n i) := by show (if n ≤ i then [] else _) = _; rw [if_neg (by omega)]
        rw [e] at hk
        simp only [eff, slp] at hk
        have hla' : ∀ a, some (lt t i) = some a → a < 26 := fun a z => by cases z; exact hlt.1
        refine cL (d + 1) i last jm S1 M2 s (by omega) hxi hla hR2 hF2 (fun M3 hR3 hF3 => ?_)
        -- the join behind the letter: from place i2, d2 signs left
        have fin : ∀ d2 i2 b2' S2 M4 s2, bI t n i = i2 → i2 + d2 = n → d2 ≤ d → fltT t d2 i2 b2' (l + 1) = none → (0 < d2 → ¬ t i2 = 33) → PR M4 k S2 → Fr (prF k) M M4 → (∀ M', PR M' k (eff (bsF t n (f + 1) (bE t n i)) (some (lt t i)) (bJ t n i) S2) → Fr (prF k) M M' → K (nI (s2 + (if bJ t n i = true then 1 else 0) + slp (bsF t n (f + 1) (bE t n i)))) M') → wX5_practiseIn_L11 k (fun M19 x2_20 x3_21 x4_22 x5_23 => (K x2_20 M19)) (d2 + 1) M4 (nI s2) (nI (lt t i)) 0 (nI i2) := by
          intro d2 i2 b2' S2 M4 s2 hI hi2 hd2 hf2 h33 hR4 hF4 hk2
          by_cases hj : i2 < n ∧ t i2 = 45
          · have eJ : bJ t n i = true := by unfold bJ; rw [hI]; exact decide_eq_true hj
            have eE : bE t n i = i2 + 1 := by unfold bE; rw [if_pos eJ, hI]
            rw [eJ, eE] at hk2
            cases d2 with
            | zero => exact absurd hj.1 (by omega)
            | succ d2 =>
              have hf3 := st_dash hf2 hj.2
              refine cD (d2 + 1) i2 _ _ M4 s2 hj.1 hj.2 hF4 ?_
              refine ih d2 (i2 + 1) (some (lt t i)) true 45 (l + 1) S2 M4 (s2 + 1) (by omega) (by omega) hf3 (fun hp => ?_) hla' hR4 hF4 hk2
              obtain ⟨d3, rfl⟩ : ∃ d3, d2 = d3 + 1 := ⟨d2 - 1, by omega⟩
              exact st_45 hf3
          · have eJ : bJ t n i = false := by unfold bJ; rw [hI]; exact decide_eq_false hj
            have eE : bE t n i = i2 := by unfold bE; rw [if_neg (by rw [eJ]; decide), hI]
            rw [eJ, eE] at hk2
            refine ih d2 i2 (some (lt t i)) false b2' (l + 1) S2 M4 s2 (by omega) (by omega) hf2 (fun hp => ?_) hla' hR4 hF4 hk2
            obtain ⟨d3, rfl⟩ : ∃ d3, d2 = d3 + 1 := ⟨d2 - 1, by omega⟩
            exact st_else hf2 (h33 (by omega)) (fun z => hj ⟨by omega, z⟩)
        by_cases hm : i + 1 < n ∧ t (i + 1) = 33
        · have eM : bM t n i = true := decide_eq_true hm
          have eI : bI t n i = i + 2 := by unfold bI; rw [if_pos eM]
          rw [eM] at hk
          cases d with
          | zero => exact absurd hm.1 (by omega)
          | succ d =>
            have hf2 := (st_mark hf1 hm.2).2
            refine cM (d + 1) (i + 1) (lt t i) 0 _ M3 s hm.1 hm.2 hlt.1 hR3 hF3 (fun M4 hR4 hF4 => ?_)
            refine fin d (i + 2) 33 _ M4 (s + 1) eI (by omega) (by omega) hf2 (fun hp z => ?_) hR4 hF4 (fun M' q1 q2 => ?_)
            · obtain ⟨d3, rfl⟩ : ∃ d3, d = d3 + 1 := ⟨d - 1, by omega⟩
              have := (st_mark hf2 z).1; rw [isL_33] at this; cases this
            · have := hk M' q1 q2
              rw [show s + 1 + (if bJ t n i = true then 1 else 0) + slp (bsF t n (f + 1) (bE t n i)) = s + ((if true = true then 1 else 0) + (if bJ t n i = true then 1 else 0) + slp (bsF t n (f + 1) (bE t n i))) by rw [if_pos rfl]; omega]
              exact this
        · have eM : bM t n i = false := decide_eq_false hm
          have eI : bI t n i = i + 1 := by unfold bI; rw [if_neg (by rw [eM]; decide)]
          rw [eM] at hk
          refine fin d (i + 1) (t i) _ M3 s eI (by omega) (by omega) hf1 (fun hp z => hm ⟨by omega, z⟩) hR3 hF3 (fun M' q1 q2 => ?_)
          have := hk M' q1 q2
          rw [show s + (if bJ t n i = true then 1 else 0) + slp (bsF t n (f + 1) (bE t n i)) = s + ((if false = true then 1 else 0) + (if bJ t n i = true then 1 else 0) + slp (bsF t n (f + 1) (bE t n i))) by rw [show (if false = true then 1 else 0) = 0 from if_neg (by decide)]; omega]
          exact this
  refine ⟨_, key n n 0 none false 45 0 S M 0 (by omega) (Nat.le_refl _) hv (fun hp => ?_) (fun a z => by cases z) hR Fr.rf (fun M' q1 q2 => by rw [Nat.zero_add]; exact h M' q1 q2)⟩
  obtain ⟨d3, rfl⟩ : ∃ d3, n = d3 + 1 := ⟨n - 1, by omega⟩
  exact st_45 hv
end MK
