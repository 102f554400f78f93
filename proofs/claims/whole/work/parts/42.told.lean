/-! ===== LAYER 2: the class's calls: what is told ===== -/
def hmh (S : gR) (p : Nat) : Nat := sumTo (fun w => if p ∈ sPt S w then 1 else 0) (sN S)
def told (S : gR) (p : Nat) (a : Int32) : Int32 := if a = 0 then S (6 + p) else if a = 1 then S (708 + p) else if a = 2 then nI (nd S p) else if a = 3 then nI (hmh S p) else -2
def wrdR (S : gR) (w : Nat) (a : Int32) : Int32 := if a = 0 then nI (sL S w) else if a = 1 then nI (sumTo (fun i => nd S ((sPt S w).getD i 0)) (sPt S w).length) else if a = 2 then nI (sPt S w).length else if a = 3 then nI (sumTo (fun i => if S (6 + (sPt S w).getD i 0) = 0 then 1 else 0) (sPt S w).length) else if a = 4 then nI (gain S [] w) else -2
def ltoR (S : gR) (w : Nat) (a : Int32) : Int32 := if 0 ≤ a then (if nI (sL S w) ≤ a then -5 else nI (sC S w a.toNatClampNeg)) else -2
def shtR (S : gR) (k : Nat) (line what : Int32) : Int32 := if line < nI (shF S k).length then (if what = 0 then nI ((shF S k).getD line.toNatClampNeg 0) else nI (gain S ((shF S k).take line.toNatClampNeg) ((shF S k).getD line.toNatClampNeg 0))) else -5
def cvd (S : gR) (ws : List Nat) (a b : Nat) : Nat := sumTo (fun i => if covB S ws (a + i) then 1 else 0) (b - a)
def covR (S : gR) (k : Nat) (a : Int32) : Int32 := if a = 0 then nI (shF S k).length else if a = 1 then nI (cvd S (shF S k) 0 26) else if a = 2 then nI (cvd S (shF S k) 26 702) else if a = 3 then nI (sumTo (fun p => if covB S (shF S k) p then nd S p else 0) 702) else nI (sumTo (fun i => gain S ((shF S k).take i) ((shF S k).getD i 0)) (shF S k).length)
def misN (S : gR) (a b : Nat) : Nat := sumTo (fun i => if nd S (a + i) ≤ 0 then 0 else if hmh S (a + i) = 0 then 1 else 0) (b - a)
/-- how many sheets, from k done ones on, with f tries left -/
def stF (a need : Nat) : Nat → Nat → gR → Int32
  | 0, _, _ => -5
  | f + 1, k, S => if maxTo (gnW S) (sN S) ≤ need then nI k else if (shF S a).length = 0 then -5 else stF a need f (k + 1) (prac S (shF S a))
def triN (S : gR) (a b : Nat) : Nat := sumTo (fun i => if S (6 + (a + i)) = 0 then 0 else 1) (b - a)
def gnFr (S : gR) (a b : Nat) : Nat := maxTo (fun i => nd S (a + i)) (b - a)
def couR (S : gR) (h n : Nat) (a : Int32) : Int32 := if a = 0 then S 5 else if a = 1 then S 1 else if a = 2 then S 0 else if a = 3 then 26 - nI (triN S 0 26) else if a = 4 then nI (triN S 26 702) else if a = 5 then nI (gnFr S 0 26) else if a = 6 then nI (gnFr S 26 702) else if a = 7 then S 2 else if a = 8 then S 3 else if a = 9 then S 4 else if a = 10 then nI h else if a = 11 then nI n else -2
/-! ranks -/
def cntP (S : gR) (a b d : Nat) : Nat := sumTo (fun i => if nd S (a + i) = d then 1 else 0) (b - a)
def nthF (S : gR) (d : Nat) : Nat → Nat → Nat → Option Nat
  | 0, _, _ => none
  | e + 1, p, left => if nd S p = d then (if left = 0 then some p else nthF S d e (p + 1) (left - 1)) else nthF S d e (p + 1) left
def wstF (S : gR) (a b : Nat) : Nat → Nat → Option Nat
  | 0, _ => none
  | d + 1, left => if cntP S a b (d + 1) ≤ left then wstF S a b d (left - cntP S a b (d + 1)) else nthF S (d + 1) (b - a) a left
section TQ
variable {M M' : gW} {S Sn : gR} {sn : Bool} {h n : Nat} {Hs : Nat → gR} {t : Nat → Int32} {K : Int32 → gW → Prop} {k : Nat}
theorem s_countNeeds {K : gW → Prop} {a b : Nat} (hR : PR M k S) (hO : OkP S) (hab : a ≤ b) (hb : b ≤ 702) (hk : ∀ M', (∀ d, d < 100 → M' 20 0 d = nI (cntP S a b d)) → Fr (fun f _ => f = 20) M M' → K M') : wX2_countNeeds M k (nI a) (nI b) K := by
  refine ⟨_, p_loop0 (fun f i => ∀ M2, (∀ d, d < i → M2 20 0 d = 0) → Fr (fun f _ => f = 20) M M2 → wX2_countNeeds_L3 (fun M8 x4_9 => (∃ n24 : Nat, wX2_countNeeds_L27 k (nI b) (fun M22 x4_23 => (K M22)) n24 M8 (nI a))) f M2 (nI i)) 100 ?_ ?_ M (fun d hd => absurd hd (by omega)) Fr.rf⟩
  · intro f M2 hz hF2
    refine br_t (nI_lt (a := 99) (b := 100) (by omega) (by omega)) ⟨_, p_loop0 (fun f i => ∀ M3, (∀ d, d < 100 → M3 20 0 d = nI (sumTo (fun i => if nd S (a + i) = d then 1 else 0) i)) → Fr (fun f _ => f = 20) M M3 → wX2_countNeeds_L27 k (nI b) (fun M22 x4_23 => (K M22)) f M3 (nI (a + i))) (b - a) ?_ ?_ M2 (fun d hd => by rw [hz d hd]; rfl) hF2⟩
    · intro f M3 h3 hF3
      exact br_t (nI_le (by omega) (by omega)) (hk M3 h3 hF3)
    · intro f i hi ih M3 h3 hF3
      have hn := nd_le hO (p := a + i) (by omega)
      refine br_f (nI_ge (by omega) (by omega)) (s_needOf (hR.fr hF3 (by omega) (by omega)) hO (by omega) ?_)
      refine br_f (nI_pos (by omega)) (br_f (nI_nlt (a := 99) (b := nd S (a + i)) (by omega) (by omega)) ⟨pk_in (nd S (a + i)) 100 (by omega), pk_in (nd S (a + i)) 100 (by omega), fun M4 e4 => ?_⟩)
      rw [nI_clamp (by omega), h3 _ (by omega), nI_add1] at e4
      rw [nI_add1]
      refine ih M4 (fun d hd => ?_) (hF3.st e4 rfl)
      simp only [sumTo]
      rw [e4, gU_same, upd_at]
      by_cases hdn : d = nd S (a + i)
      · subst hdn; rw [if_pos rfl, if_pos rfl]
      · rw [if_neg hdn, if_neg (Ne.symm hdn), h3 d hd]; rfl
  · intro f i hi ih M2 hz hF2
    refine br_f (nI_nlt (a := 99) (b := i) (by omega) (by omega)) ⟨pk_in i 100 hi, fun M3 e3 => ?_⟩
    rw [nI_clamp (by omega)] at e3
    rw [nI_add1]
    refine ih M3 (fun d hd => ?_) (hF2.st e3 rfl)
    rw [e3, gU_same, upd_at]
    split
    · rfl
    · exact hz d (by omega)
theorem s_partWithNeed {a b d left : Nat} (hR : PR M k S) (hO : OkP S) (hab : a ≤ b) (hb : b ≤ 702) (hd : d < 100) (hl : left < 2 ^ 31) (hk : K (oF (-5) (nthF S d (b - a) a left)) M) : wX2_partWithNeed M k (nI a) (nI b) (nI d) (nI left) K := by
  have key : ∀ e p left, p + e = b → left < 2 ^ 31 → K (oF (-5) (nthF S d e p left)) M → wX2_partWithNeed_L7 k (nI b) (nI d) K (fun M10 x5_11 x6_12 => (K (-5 : Int32) M10)) (e + 1) M (nI left) (nI p) := by
    intro e
    induction e with
    | zero => intro p left hp hl hk; exact br_t (nI_le (by omega) (by omega)) hk
    | succ e ih =>
      intro p left hp hl hk
      have hn := nd_le hO (p := p) (by omega)
      refine br_f (nI_ge (by omega) (by omega)) (s_needOf hR hO (by omega) ?_)
      unfold nthF at hk
      refine pk_eq (nd S p) d (fun z => ?_) (fun z => ?_)
      · rw [if_pos z] at hk
        refine pk_eq left 0 (fun y => ?_) (fun y => ?_)
        · rw [if_pos y] at hk; exact hk
        · rw [if_neg y] at hk
          have e1 : nI left + (-1 : Int32) = nI (left - 1) := by
            obtain ⟨l', rfl⟩ : ∃ l', left = l' + 1 := ⟨left - 1, by omega⟩
            exact pk_m1 l'
          rw [e1, nI_add1]; exact ih (p + 1) (left - 1) (by omega) (by omega) hk
      · rw [if_neg z] at hk
        rw [nI_add1]; exact ih (p + 1) left (by omega) hl hk
  exact ⟨_, key (b - a) a left (by omega) hl hk⟩
theorem cntP_le {S : gR} {a b d : Nat} (hab : a ≤ b) (hb : b ≤ 702) : cntP S a b d ≤ 702 := by
  have := sumTo_le (g := fun i => if nd S (a + i) = d then 1 else 0) (b := 1) (b - a) (fun k hk => by split <;> omega)
  unfold cntP; omega
theorem s_partAt {a b r : Nat} (hR : PR M k S) (hO : OkP S) (hab : a ≤ b) (hb : b ≤ 702) (hr : r < 2 ^ 31) (hk : ∀ M', Fr (fun f _ => f = 20) M M' → K (oF (-5) (wstF S a b 99 r)) M') : wX2_partAt M k (nI a) (nI b) (nI r) K := by
  refine s_countNeeds hR hO hab hb (fun M1 h1 hF1 => ?_)
  have hk1 := hk M1 hF1
  have hR1 := hR.fr hF1 (by omega) (by omega)
  have key : ∀ d left, d < 100 → left < 2 ^ 31 → K (oF (-5) (wstF S a b d left)) M1 → wX2_partAt_L15 k (nI a) (nI b) K (fun M12 x5_13 x6_14 => (K (-5 : Int32) M12)) (d + 1) M1 (nI left) (nI d) := by
    intro d
    induction d with
    | zero => intro left _ hl hk; exact br_t (by decide) hk
    | succ d ih =>
      intro left hd hl hk
      have hc := cntP_le (S := S) (d := d + 1) hab hb
      refine br_f (nI_nle (n := d + 1) (by omega) (by omega)) ⟨pk_in (d + 1) 100 hd, ?_⟩
      rw [nI_clamp (by omega), h1 (d + 1) hd]
      unfold wstF at hk
      refine pk_le (cntP S a b (d + 1)) left (fun z => ⟨pk_in (d + 1) 100 hd, ?_⟩) (fun z => ?_)
      · rw [if_pos z] at hk
        rw [pk_sub z, pk_m1]; exact ih _ (by omega) (by omega) hk
      · rw [if_neg (by omega)] at hk
        exact s_partWithNeed hR1 hO hab hb hd hl hk
  exact ⟨_, key 99 r (by omega) hr hk1⟩
theorem x_told {p : Nat} {a : Int32} (hC : CR M 0 S) (hO : Ok S) (hp : p < 702) (hk : K (told S p a) M) : wX8_toldOfPart M (nI p) a K := by
  unfold told at hk
  refine ⟨fun z => ?_, fun z => ?_, fun z => ?_, fun z => ?_, fun z0 z1 z2 z3 => ?_⟩
  · rw [if_pos z] at hk; exact s_triesOf hp (by rw [(hC.1 p hp).1]; exact hk)
  · rw [if_neg (by rw [z]; decide), if_pos z] at hk; exact s_slipsOf hp (by rw [(hC.1 p hp).2]; exact hk)
  · rw [if_neg (by rw [z]; decide), if_neg (by rw [z]; decide), if_pos z] at hk; exact s_needOf hC.1 hO.1 hp hk
  · rw [if_neg (by rw [z]; decide), if_neg (by rw [z]; decide), if_neg (by rw [z]; decide), if_pos z] at hk
    exact s_howManyHave hC.2.1 hO.2.1.2 hO.2.1.1 hO.2.2.1 hp hk
  · rw [if_neg z0, if_neg z1, if_neg z2, if_neg z3] at hk; exact hk
theorem x_letter {x a : Int32} (hC : CR M 0 S) (hO : Ok S) (h1 : ∀ l, isL x = true → l < 26 → x - 97 = nI l → K (told S l a) M) (h0 : isL x = false → K (-1) M) : wX8_letter M x a K := by
  refine s_isLetter ?_
  cases hx : isL x with
  | false => exact br_t rfl (h0 hx)
  | true =>
    refine br_f (by decide) ?_
    obtain ⟨l, h26, -, e⟩ := isL_nI hx
    unfold wX8_letterNumber
    rw [e]
    exact x_told hC hO (by omega) (h1 l hx h26 e)
theorem x_join {x y a : Int32} (hC : CR M 0 S) (hO : Ok S) (h1 : ∀ l m, isL x = true → isL y = true → l < 26 → m < 26 → x - 97 = nI l → y - 97 = nI m → K (told S (jn l m) a) M) (h0 : ¬ (isL x = true ∧ isL y = true) → K (-1) M) : wX8_join M x y a K := by
  refine s_isLetter ?_
  cases hx : isL x with
  | false => exact br_t rfl (h0 (fun z => by rw [hx] at z; exact absurd z.1 (by decide)))
  | true =>
    refine br_f (by decide) (s_isLetter ?_)
    cases hy : isL y with
    | false => exact br_t rfl (h0 (fun z => by rw [hy] at z; exact absurd z.2 (by decide)))
    | true =>
      refine br_f (by decide) ?_
      obtain ⟨l, hl, -, el⟩ := isL_nI hx
      obtain ⟨m, hm, -, em⟩ := isL_nI hy
      unfold wX8_letterNumber
      dsimp only
      rw [el, em]
      exact s_joinPart (x_told hC hO (jn_lt hl hm) (h1 l m hx hy hl hm el em))
theorem x_word_bad {a b : Int32} (hC : CR M 0 S) (hO : Ok S) (ha : a < 0 ∨ nI (sN S) ≤ a) (hk : K (-1) M) : wX8_word M a b K := by
  refine s_at hC.2.1 hO.2.1.2 hO.2.1.1 (fun _ => ⟨fun _ => hk, fun o z => (by cases z)⟩) (fun w hw e => ?_)
  subst e
  exact absurd ha (fun z => z.elim (nI_pos (by have := hO.2.1.2; omega)) (nI_ge hw (by have := hO.2.1.2; omega)))
theorem x_word {w : Nat} {b : Int32} (hX : XR M S sn Sn h Hs t n) (hO : Ok S) (hw : w < sN S) (hk : ∀ M', XR M' S sn Sn h Hs t n → K (wrdR S w b) M') : wX8_word M (nI w) b K := by
  have hN := hO.2.1.2
  have hC := hX.1
  have hkM := hk M hX
  have ho := hO.2.2.1 w hw
  have hc : ∀ i, i < sL S w → sC S w i < 26 := fun i hi => (ho.2.2.2 i hi).2
  obtain ⟨u, hu, hu9⟩ := hO.2.2.2.1
  have hW : WR M w (sC S w) (sL S w) := by have := hC.2.1.2 w hw; rwa [Nat.mul_zero, Nat.zero_add] at this
  refine s_at hC.2.1 hN hO.2.1.1 (fun z => absurd z (fun z => z.elim (nI_pos (by omega)) (nI_ge hw (by omega)))) (fun w' hw' e => ⟨fun z => (by cases z), fun o z => ?_⟩)
  obtain rfl : w = w' := (nI_eq (by omega) (by omega)).mp e
  cases z
  rw [Nat.mul_zero, Nat.zero_add]
  unfold wrdR at hkM hk
  refine ⟨by show w < 141; omega, fun z => ?_, fun z => ?_, fun z => ?_, fun z => ?_, fun z => ?_, fun z0 z1 z2 z3 z4 => ?_⟩
  · rw [if_pos z] at hkM; rw [hW.1]; exact hkM
  · rw [if_neg (by rw [z]; decide), if_pos z] at hkM; exact s_needOfAll hC.1 hO.1 hW ho.2.2.1 hc hkM
  · rw [if_neg (by rw [z]; decide), if_neg (by rw [z]; decide), if_pos z] at hkM; rw [hW.2.2.1]; exact hkM
  · rw [if_neg (by rw [z]; decide), if_neg (by rw [z]; decide), if_neg (by rw [z]; decide), if_pos z] at hkM; exact s_untriedOf hC.1 hW ho.2.2.1 hc hkM
  · rw [if_neg (by rw [z]; decide), if_neg (by rw [z]; decide), if_neg (by rw [z]; decide), if_neg (by rw [z]; decide), if_pos z] at hk
    refine s_clear (S := S) (fun M1 hP1 hF1 => ?_)
    have hX1 := hX.fr hO hF1 kp_pl
    exact s_gainOf (ws := []) hX1.1.1 hO.1 hX1.1.2.2.2.1 hu hu9 hP1.2.2.2.1 (hW.fr hF1 (by unfold plF; omega) (by unfold plF; omega) (by unfold plF; omega)) ho.2.2.1 hc (hk M1 hX1)
  · rw [if_neg z0, if_neg z1, if_neg z2, if_neg z3, if_neg z4] at hkM; exact hkM
theorem x_lto_bad {a b : Int32} (hC : CR M 0 S) (hO : Ok S) (ha : a < 0 ∨ nI (sN S) ≤ a) (hk : K (-1) M) : wX8_letterOf M a b K := by
  refine s_at hC.2.1 hO.2.1.2 hO.2.1.1 (fun _ => ⟨fun _ => hk, fun o z => (by cases z)⟩) (fun w hw e => ?_)
  subst e
  exact absurd ha (fun z => z.elim (nI_pos (by have := hO.2.1.2; omega)) (nI_ge hw (by have := hO.2.1.2; omega)))
theorem x_lto {w : Nat} {b : Int32} (hC : CR M 0 S) (hO : Ok S) (hw : w < sN S) (hk : K (ltoR S w b) M) : wX8_letterOf M (nI w) b K := by
  have hN := hO.2.1.2
  have ho := hO.2.2.1 w hw
  have h15 := ho.2.2.1
  have hW : WR M w (sC S w) (sL S w) := by have := hC.2.1.2 w hw; rwa [Nat.mul_zero, Nat.zero_add] at this
  refine s_at hC.2.1 hN hO.2.1.1 (fun z => absurd z (fun z => z.elim (nI_pos (by omega)) (nI_ge hw (by omega)))) (fun w' hw' e => ⟨fun z => (by cases z), fun o z => ?_⟩)
  obtain rfl : w = w' := (nI_eq (by omega) (by omega)).mp e
  cases z
  rw [Nat.mul_zero, Nat.zero_add, hW.1]
  unfold ltoR at hk
  refine ⟨by show w < 141; omega, fun z => ?_, fun z => ?_⟩
  · rw [if_pos z] at hk
    refine ⟨fun y => ?_, fun y => ?_⟩
    · rw [if_pos y] at hk; exact hk
    · rw [if_neg y] at hk
      rcases pk_ix b (n := sL S w) (by omega) with q | q | ⟨j, hj, rfl⟩
      · exact absurd q (Int32.not_lt.mpr z)
      · exact absurd q y
      · rw [nI_clamp (by omega)] at hk ⊢
        rw [hW.2.1 j hj]; exact ⟨pk_in j 15 (by omega), hk⟩
  · rw [if_neg z] at hk; exact hk
theorem x_sheet_bad {a b c : Int32} (ha : ¬ lnOk a ∨ b < 0 ∨ c < 0 ∨ ¬ c ≤ 1) (hk : K (-2) M) : wX8_sheet M a b c K := by
  refine s_areLines (fun z => br_f (by decide) ⟨fun _ => hk, fun y => ⟨fun _ => hk, fun w => ⟨fun v => ?_, fun _ => hk⟩⟩⟩) (fun _ => br_t rfl hk)
  rcases ha with q | q | q | q
  · exact absurd z q
  · exact absurd q y
  · exact absurd q w
  · exact absurd v q
theorem x_sheet {b c : Int32} (hX : XR M S sn Sn h Hs t n) (hO : Ok S) (ha : lnOk (nI k)) (h10 : k ≤ 10) (hb : ¬ b < 0) (hc0 : ¬ c < 0) (hc1 : c ≤ 1) (hk : ∀ M', XR M' S sn Sn h Hs t n → K (shtR S k b c) M') : wX8_sheet M (nI k) b c K := by
  refine s_areLines (fun _ => br_f (by decide) (br_f hb (br_f hc0 (br_t hc1 (s_choose hX.1 hO h10 (fun M1 hP1 hF1 => ?_)))))) (fun z => absurd ha z)
  have hk1 := hk M1 (hX.fr hO hF1 kp_pl)
  have hl := shF_len S k
  rw [hP1.1]
  unfold shtR at hk1
  refine ⟨fun z => ?_, fun z => ?_⟩
  · rw [if_pos z] at hk1
    obtain ⟨j, hj, rfl⟩ := nI_of hb
    have hjl : j < (shF S k).length := (nI_ltI (by omega) (by omega)).mp z
    have hv := hP1.2.2.1 j hjl
    rw [nI_clamp hj] at hk1 ⊢
    have hin : vp_in (nI j) 10 := pk_in j 10 (by omega)
    refine ⟨fun y => ?_, fun y => ?_⟩
    · rw [if_pos y] at hk1; rw [hv.1]; exact ⟨hin, hk1⟩
    · rw [if_neg y] at hk1; rw [hv.2]; exact ⟨hin, hk1⟩
  · rw [if_neg z] at hk1; exact hk1
theorem x_cov_bad {a c : Int32} (ha : ¬ lnOk a ∨ c < 0 ∨ ¬ c ≤ 4) (hk : K (-2) M) : wX8_covers M a c K := by
  refine s_areLines (fun z => br_f (by decide) ⟨fun _ => hk, fun w => ⟨fun v => ?_, fun _ => hk⟩⟩) (fun _ => br_t rfl hk)
  rcases ha with q | q | q
  · exact absurd z q
  · exact absurd q w
  · exact absurd v q
theorem x_cov {c : Int32} (hX : XR M S sn Sn h Hs t n) (hO : Ok S) (ha : lnOk (nI k)) (h10 : k ≤ 10) (hc0 : ¬ c < 0) (hc1 : c ≤ 4) (hk : ∀ M', XR M' S sn Sn h Hs t n → K (covR S k c) M') : wX8_covers M (nI k) c K := by
  refine s_areLines (fun _ => br_f (by decide) (br_f hc0 (br_t hc1 (s_choose hX.1 hO h10 (fun M1 hP1 hF1 => ?_))))) (fun z => absurd ha z)
  have hX1 := hX.fr hO hF1 kp_pl
  have hk1 := hk M1 hX1
  unfold covR at hk1
  refine ⟨fun z => ?_, fun z => ?_, fun z => ?_, fun z => ?_, fun z0 z1 z2 z3 => ?_⟩
  · rw [if_pos z] at hk1; rw [hP1.1]; exact hk1
  · rw [if_neg (by rw [z]; decide), if_pos z] at hk1; exact s_coveredFrom (a := 0) (b := 26) hP1 (by omega) (by omega) hk1
  · rw [if_neg (by rw [z]; decide), if_neg (by rw [z]; decide), if_pos z] at hk1; exact s_coveredFrom (a := 26) (b := 702) hP1 (by omega) (by omega) hk1
  · rw [if_neg (by rw [z]; decide), if_neg (by rw [z]; decide), if_neg (by rw [z]; decide), if_pos z] at hk1; exact s_needCovered hX1.1.1 hO.1 hP1 hk1
  · rw [if_neg z0, if_neg z1, if_neg z2, if_neg z3] at hk1; exact s_sumOfGains hP1 hk1
theorem nthF_lt {d : Nat} : ∀ e p left q, nthF S d e p left = some q → p ≤ q ∧ q < p + e := by
  intro e
  induction e with
  | zero => intro p left q hq; unfold nthF at hq; cases hq
  | succ e ih =>
    intro p left q hq
    unfold nthF at hq
    split at hq
    · split at hq
      · cases hq; omega
      · have := ih _ _ _ hq; omega
    · have := ih _ _ _ hq; omega
theorem wstF_lt {a b : Nat} : ∀ d left q, wstF S a b d left = some q → a ≤ q ∧ q < a + (b - a) := by
  intro d
  induction d with
  | zero => intro left q hq; unfold wstF at hq; cases hq
  | succ d ih =>
    intro left q hq
    unfold wstF at hq
    split at hq
    · exact ih _ _ hq
    · exact nthF_lt _ _ _ _ hq
/-- the bounds of letters, of joins -/
def paA (a : Int32) : Nat := if a = 0 then 0 else 26
def paB (a : Int32) : Nat := if a = 0 then 26 else 702
def oS (a : Nat) : Option Nat → Int32
  | none => -5
  | some p => nI (p - a)
theorem s_first {a : Int32} (hk : K (nI (paA a)) M) : wX8_firstPart M a K := by
  unfold paA at hk
  exact ⟨fun z => by rw [if_pos z] at hk; exact hk, fun z => by rw [if_neg z] at hk; exact hk⟩
theorem s_end {a : Int32} (hk : K (nI (paB a)) M) : wX8_endOfParts M a K := by
  unfold paB at hk
  exact ⟨fun z => by rw [if_pos z] at hk; exact hk, fun z => by rw [if_neg z] at hk; exact hk⟩
theorem pa_le (a : Int32) : paA a ≤ paB a ∧ paB a ≤ 702 := by unfold paA paB; split <;> omega
theorem x_worst_bad {a b : Int32} (hb : ¬ 0 ≤ b) (hk : K (-2) M) : wX8_worst M a b K := br_f hb hk
theorem x_worst {a : Int32} {r : Nat} (hX : XR M S sn Sn h Hs t n) (hO : Ok S) (hr : r < 2 ^ 31) (hk : ∀ M', XR M' S sn Sn h Hs t n → K (oS (paA a) (wstF S (paA a) (paB a) 99 r)) M') : wX8_worst M a (nI r) K := by
  have hp := pa_le a
  refine br_t (nI_pos' hr) (s_first (s_end (s_partAt hX.1.1 hO.1 hp.1 hp.2 hr (fun M1 hF1 => ?_))))
  have hk1 := hk M1 (hX.fr hO hF1 kp_20)
  cases hw : wstF S (paA a) (paB a) 99 r with
  | none => rw [hw] at hk1; exact br_t rfl hk1
  | some p =>
    rw [hw] at hk1
    have hlt := wstF_lt 99 r p hw
    refine br_f (nI_ne_neg (by omega) (by decide)) ?_
    show K (nI p - nI (paA a)) M1
    rw [pk_sub hlt.1]; exact hk1
theorem hmh_le {p : Nat} (hN : sN S ≤ 20) : hmh S p ≤ 20 := by
  have := sumTo_le (g := fun w => if p ∈ sPt S w then 1 else 0) (b := 1) (sN S) (fun k hk => by split <;> omega)
  unfold hmh; omega
theorem x_missing {a : Int32} (hC : CR M 0 S) (hO : Ok S) (hk : K (nI (misN S (paA a) (paB a))) M) : wX8_missing M a K := by
  have hp := pa_le a
  refine s_end (s_first ⟨_, p_loop0 (fun f i => wX8_missing_L13 (nI (paB a)) (fun M16 x3_17 x4_18 => (K x3_17 M16)) f M (nI (sumTo (fun i => if nd S (paA a + i) ≤ 0 then 0 else if hmh S (paA a + i) = 0 then 1 else 0) i)) (nI (paA a + i))) (paB a - paA a) ?_ ?_⟩)
  · intro f; exact br_t (nI_le (by omega) (by omega)) hk
  · intro f i hi ih
    have hn := nd_le hO.1 (p := paA a + i) (by omega)
    simp only [sumTo] at ih
    refine br_f (nI_ge (by omega) (by omega)) (s_needOf hC.1 hO.1 (by omega) ?_)
    refine pk_le (nd S (paA a + i)) 0 (fun z => ?_) (fun z => ?_)
    · rw [if_pos z] at ih; rw [nI_add1]; exact ih
    · rw [if_neg (by omega)] at ih
      have hh := hmh_le (p := paA a + i) hO.2.1.2
      refine s_howManyHave hC.2.1 hO.2.1.2 hO.2.1.1 hO.2.2.1 (by omega) ?_
      refine pk_eq (hmh S (paA a + i)) 0 (fun y => ?_) (fun y => ?_) (hx := rfl)
      · rw [if_pos y] at ih; rw [nI_add1, nI_add1]; exact ih
      · rw [if_neg y] at ih; rw [nI_add1]; exact ih
theorem x_to_bad {a c : Int32} (ha : ¬ lnOk a ∨ c < 0 ∨ ¬ c ≤ 99) (hk : K (-2) M) : wX8_sheetsTo M a c K := by
  refine s_areLines (fun z => br_f (by decide) ⟨fun _ => hk, fun w => ⟨fun v => ?_, fun _ => hk⟩⟩) (fun _ => br_t rfl hk)
  rcases ha with q | q | q
  · exact absurd z q
  · exact absurd q w
  · exact absurd v q
theorem x_to {need : Nat} (hX : XR M S sn Sn h Hs t n) (hO : Ok S) (ha : lnOk (nI k)) (h10 : k ≤ 10) (hn : need ≤ 99) (hk : ∀ M', XR M' S sn Sn h Hs t n → K (stF k need 21 0 S) M') : wX8_sheetsTo M (nI k) (nI need) K := by
  refine s_areLines (fun _ => br_f (by decide) (br_f (nI_pos (by omega)) (br_t (nI_le (b := 99) (by omega) (by omega)) (s_copyS (by omega) hX.1 hO.l (fun M1 hC1 hF1 => ?_))))) (fun z => absurd ha z)
  have hX1 := hX.fr hO hF1 kp_2
  have key : ∀ f d T M2, d + f = 21 → CR M2 2 T → Ok T → XR M2 S sn Sn h Hs t n → (∀ M', XR M' S sn Sn h Hs t n → K (stF k need f d T) M') → wX8_sheetsTo_L33 (nI k) (nI need) K (fun M17 x3_18 => (K (-5 : Int32) M17)) (f + 1) M2 (nI d) := by
    intro f
    induction f with
    | zero => intro d T M2 hd hC2 hO2 hX2 hk2; exact br_t (nI_lt (a := 20) (b := d) (by omega) (by omega)) (hk2 M2 hX2)
    | succ f ih =>
      intro d T M2 hd hC2 hO2 hX2 hk2
      have hg : maxTo (gnW T) (sN T) ≤ 99 := maxTo_le _ (fun w hw => gnW_le hO2.1 (hO2.2.2.1 w hw))
      refine br_f (nI_nlt (a := 20) (b := d) (by omega) (by omega)) (s_greatestNeedOfWords hC2.1 hO2.1 hC2.2.1 hO2.2.1.2 hO2.2.1.1 hO2.2.2.1 ?_)
      unfold stF at hk2
      refine pk_lt need (maxTo (gnW T) (sN T)) (fun z => ?_) (fun z => ?_)
      · rw [if_neg (by omega)] at hk2
        refine s_choose hC2 hO2 h10 (fun M3 hP3 hF3 => ?_)
        have hX3 := hX2.fr hO hF3 kp_pl
        have hl := shF_len T k
        rw [hP3.1]
        refine pk_eq (shF T k).length 0 (fun y => ?_) (fun y => ?_)
        · rw [if_pos y] at hk2; exact hk2 M3 hX3
        · rw [if_neg y] at hk2
          have hC3 : CR M3 2 T := hC2.fr hF3 hO2.2.1.2 (fun f k z => by unfold own at z; unfold plF; omega)
          refine s_practise (by omega) hC3 hO2 hP3 (fun M4 hC4 hF4 => ?_)
          rw [nI_add1]
          exact ih (d + 1) _ M4 (by omega) hC4 (prac_ok hO2 (shF_lt T k)) (hX3.fr hO hF4 (fun f k z => by have := kp_2 f k z; unfold own at this; omega)) hk2
      · rw [if_pos z] at hk2; exact hk2 M2 hX2
  exact ⟨_, key 21 0 S M1 rfl hC1 hO hX1 hk⟩
theorem x_count {a : Int32} (hX : XR M S sn Sn h Hs t n) (hO : Ok S) (hk : K (couR S h n a) M) : wX8_count M a K := by
  obtain ⟨⟨c1, c2, c3, c4, c5, c6, c7⟩, x2, x3, x4⟩ := hX
  unfold couR at hk
  refine ⟨fun z => ?_, fun z => ?_, fun z => ?_, fun z => ?_, fun z => ?_, fun z => ?_, fun z => ?_, fun z => ?_, fun z => ?_, fun z => ?_, fun z => ?_, fun z => ?_, fun z0 z1 z2 z3 z4 z5 z6 z7 z8 z9 z10 z11 => ?_⟩
  · rw [if_pos z] at hk; rw [c2.1]; exact hk
  · rw [if_neg (by rw [z]; decide), if_pos z] at hk; rw [c3]; exact hk
  · iterate 2 rw [if_neg (by rw [z]; decide)] at hk
    rw [if_pos z] at hk; rw [c4]; exact hk
  · iterate 3 rw [if_neg (by rw [z]; decide)] at hk
    rw [if_pos z] at hk; exact s_triedFrom (a := 0) (b := 26) c1 (by omega) (by omega) hk
  · iterate 4 rw [if_neg (by rw [z]; decide)] at hk
    rw [if_pos z] at hk; exact s_triedFrom (a := 26) (b := 702) c1 (by omega) (by omega) hk
  · iterate 5 rw [if_neg (by rw [z]; decide)] at hk
    rw [if_pos z] at hk; exact s_greatestNeedFrom (a := 0) (b := 26) c1 hO.1 (by omega) (by omega) hk
  · iterate 6 rw [if_neg (by rw [z]; decide)] at hk
    rw [if_pos z] at hk; exact s_greatestNeedFrom (a := 26) (b := 702) c1 hO.1 (by omega) (by omega) hk
  · iterate 7 rw [if_neg (by rw [z]; decide)] at hk
    rw [if_pos z] at hk; rw [c5]; exact hk
  · iterate 8 rw [if_neg (by rw [z]; decide)] at hk
    rw [if_pos z] at hk; rw [c6]; exact hk
  · iterate 9 rw [if_neg (by rw [z]; decide)] at hk
    rw [if_pos z] at hk; rw [c7]; exact hk
  · iterate 10 rw [if_neg (by rw [z]; decide)] at hk
    rw [if_pos z] at hk; rw [x3.1]; exact hk
  · iterate 11 rw [if_neg (by rw [z]; decide)] at hk
    rw [if_pos z] at hk; rw [x4.1]; exact hk
  · rw [if_neg z0, if_neg z1, if_neg z2, if_neg z3, if_neg z4, if_neg z5, if_neg z6, if_neg z7, if_neg z8, if_neg z9, if_neg z10, if_neg z11] at hk; exact hk
end TQ
