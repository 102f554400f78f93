/-! ===== LAYER 2: the class's word list ===== -/
def PL (M : gW) (q : Nat) (l : List Nat) : Prop := M 7 q 3 = nI l.length ∧ ∀ i, i < l.length → M 9 q i = nI (l.getD i 0)
/-- the words' rows of S with one word more -/
def appW (S : gR) (c : Nat → Nat) (n : Nat) : gR := fun i => if i = 5 then S 5 + 1 else if i = 1410 + 16 * sN S then nI n else if 1410 + 16 * sN S + 1 ≤ i ∧ i < 1410 + 16 * sN S + 1 + n then nI (c (i - (1410 + 16 * sN S + 1))) else S i
def onB (S : gR) (c : Nat → Nat) (n : Nat) : Bool := (List.range (sN S)).any (fun w => decide (sL S w = n) && (List.range n).all (fun j => decide (sC S w j = c j)))
def addW (S : gR) (c : Nat → Nat) (n : Nat) : Option gR := if onB S c n = true then some S else if sN S = 20 then none else some (appW S c n)
def rmW (S : gR) (w : Nat) : gR := fun i => if i = 5 then S 5 - 1 else if 1410 + 16 * w ≤ i ∧ i < 1410 + 16 * (sN S - 1) then S (i + 16) else S i
theorem onB_iff {S : gR} {c : Nat → Nat} {n : Nat} : onB S c n = true ↔ ∃ w, w < sN S ∧ sL S w = n ∧ ∀ j, j < n → sC S w j = c j := by
  unfold onB
  rw [List.any_eq_true]
  constructor
  · rintro ⟨w, hw, h⟩
    rw [Bool.and_eq_true] at h
    refine ⟨w, List.mem_range.mp hw, of_decide_eq_true h.1, fun j hj => ?_⟩
    have := List.all_eq_true.mp h.2 j (List.mem_range.mpr hj)
    exact of_decide_eq_true this
  · rintro ⟨w, hw, h1, h2⟩
    refine ⟨w, List.mem_range.mpr hw, ?_⟩
    rw [Bool.and_eq_true]
    exact ⟨decide_eq_true h1, List.all_eq_true.mpr (fun j hj => decide_eq_true (h2 j (List.mem_range.mp hj)))⟩
section AW
variable {S : gR} {c : Nat → Nat} {n : Nat}
theorem appW_5 : appW S c n 5 = S 5 + 1 := by unfold appW; rw [if_pos rfl]
theorem appW_N (h5 : S 5 = nI (sN S)) (hN : sN S ≤ 20) : sN (appW S c n) = sN S + 1 := by
  unfold sN; rw [appW_5]; show (S 5 + 1).toNatClampNeg = sN S + 1
  rw [h5, nI_add1]; exact nI_clamp (by omega)
theorem appW_lo {i : Nat} (h : i < 1410 + 16 * sN S) (h5 : i ≠ 5) : appW S c n i = S i := by
  unfold appW; rw [if_neg h5, if_neg (by omega), if_neg (by omega)]
theorem appW_L : appW S c n (1410 + 16 * sN S) = nI n := by
  unfold appW; rw [if_neg (by omega), if_pos rfl]
theorem appW_C {j : Nat} (hj : j < n) : appW S c n (1410 + 16 * sN S + 1 + j) = nI (c j) := by
  unfold appW; rw [if_neg (by omega), if_neg (by omega), if_pos ⟨by omega, by omega⟩]; congr 2; omega
theorem appW_word {w : Nat} (hw : w < sN S) (hL : sL S w ≤ 15) : sL (appW S c n) w = sL S w ∧ ∀ j, j < sL S w → sC (appW S c n) w j = sC S w j := by
  refine ⟨?_, fun j hj => ?_⟩
  · unfold sL; rw [appW_lo (by omega) (by omega)]
  · unfold sC; rw [appW_lo (by omega) (by omega)]
theorem appW_new (hn : n ≤ 15) (hc : ∀ j, j < n → c j < 26) : sL (appW S c n) (sN S) = n ∧ ∀ j, j < n → sC (appW S c n) (sN S) j = c j := by
  refine ⟨?_, fun j hj => ?_⟩
  · unfold sL; rw [appW_L]; exact nI_clamp (by omega)
  · unfold sC; rw [appW_C hj]; exact nI_clamp (by have := hc j hj; omega)
theorem appW_ok (hO : OkL S) (h20 : sN S < 20) (h1 : 1 ≤ n) (hn : n ≤ 15) (hc : ∀ j, j < n → c j < 26) : OkL (appW S c n) := by
  have eN := appW_N (c := c) (n := n) hO.1.1 hO.1.2
  refine ⟨⟨by rw [eN, appW_5, hO.1.1, nI_add1], by omega⟩, fun w hw => ?_⟩
  rw [eN] at hw
  by_cases hws : w = sN S
  · subst hws
    have h := appW_new (S := S) hn hc
    refine ⟨by rw [h.1]; exact appW_L, by omega, by omega, fun j hj => ?_⟩
    rw [h.1] at hj
    rw [h.2 j hj, appW_C hj]; exact ⟨rfl, hc j hj⟩
  · have ho := hO.2 w (by omega)
    have h := appW_word (c := c) (n := n) (show w < sN S by omega) ho.2.2.1
    refine ⟨by rw [h.1, appW_lo (by omega) (by omega)]; exact ho.1, by rw [h.1]; exact ho.2.1, by rw [h.1]; exact ho.2.2.1, fun j hj => ?_⟩
    rw [h.1] at hj
    have h15 := ho.2.2.1
    rw [h.2 j hj, appW_lo (by omega) (by omega)]; exact ho.2.2.2 j hj
end AW
section WL
variable {M M' : gW} {k p q n : Nat} {S : gR} {c : Nat → Nat} {l : List Nat}
theorem WR.pl (h : WR M q c n) : PL M q (ptF c n) := ⟨h.2.2.1, h.2.2.2⟩
theorem s_hasL {K : Int32 → gW → Prop} (hP : PL M q l) (hl : l.length ≤ 29) (hlt : ∀ x ∈ l, x < 702) (hp : p < 702) (h1 : p ∈ l → K 1 M) (h0 : p ∉ l → K 0 M) : wX6_has M q (nI p) K := by
  refine ⟨_, p_loop0 (fun f i => (∀ j, j < i → l.getD j 0 ≠ p) → wX6_has_L2 q (nI p) K (fun M7 x2_8 => K 0 M7) f M (nI i)) l.length ?_ ?_ (fun j hj => absurd hj (by omega))⟩
  · intro f hno
    refine br_t (by rw [hP.1]; exact nI_le (by omega) (by omega)) (h0 fun hm => ?_)
    obtain ⟨i, hi, e⟩ := mem_iff_getD.mp hm
    exact hno i hi e
  · intro f i hi ih hno
    refine br_f (by rw [hP.1]; exact nI_ge hi (by omega)) ⟨pk_in i 29 (by omega), ?_⟩
    rw [nI_clamp (by omega), hP.2 i hi]
    have hb := getD_lt hlt hi
    refine pk_eq (l.getD i 0) p (fun z => h1 (mem_iff_getD.mpr ⟨i, hi, z⟩)) (fun z => ?_)
    rw [nI_add1]
    refine ih (fun j hj => ?_)
    rcases Nat.lt_or_ge j i with z1 | z1
    · exact hno j z1
    · obtain rfl : j = i := by omega
      exact z
theorem s_addPart {K : gW → Prop} (hP : PL M q l) (hl : l.length < 29) (hlt : ∀ x ∈ l, x < 702) (hp : p < 702) (h : ∀ M', PL M' q (addP l p) → M' 7 q 2 = M 7 q 2 → Fr (fun f k => (f = 7 ∨ f = 9) ∧ k = q) M M' → K M') : wX6_addPart M q (nI p) K := by
  unfold wX6_addPart
  rw [hP.1]
  refine pk_le 29 l.length (fun z => absurd z (by omega)) (fun _ => s_hasL hP (by omega) hlt hp (fun z => br_f (by decide) ?_) (fun z => br_t rfl ?_))
  · refine h M ?_ rfl Fr.rf
    unfold addP; rw [if_pos z]; exact hP
  · rw [hP.1]
    refine ⟨pk_in _ 29 (by omega), fun M6 e6 M8 e8 => ?_⟩
    rw [nI_clamp (by omega)] at e6
    have hF : Fr (fun f k => (f = 7 ∨ f = 9) ∧ k = q) M M8 := (Fr.rf.st e6 ⟨Or.inr rfl, rfl⟩).st e8 ⟨Or.inl rfl, rfl⟩
    refine h M8 ⟨?_, fun i hi => ?_⟩ ?_ hF
    · rw [e8, gU_same, upd_at, if_pos rfl, e6, gU_o (by decide), hP.1, nI_add1]
      unfold addP; rw [if_neg z, List.length_append]; rfl
    · unfold addP at hi ⊢
      rw [if_neg z] at hi ⊢
      rw [List.length_append] at hi
      simp only [List.length_singleton] at hi
      rw [e8, gU_o (by decide), e6, gU_same, upd_at]
      by_cases hil : i = l.length
      · subst hil; rw [if_pos rfl, getD_last]
      · rw [if_neg hil, getD_app (by omega)]; exact hP.2 i (by omega)
    · rw [e8, gU_same, upd_at, if_neg (by decide), e6, gU_o (by decide)]
theorem ptF_snoc {c' : Nat → Nat} {a : Nat} (hb : ∀ i, i < n → c' i = c i) (hn : c' n = a) : ptF c' (n + 1) = if n = 0 then addP (ptF c n) a else addP (addP (ptF c n) a) (jn (c (n - 1)) a) := by
  simp only [ptF]
  rw [ptF_congr n hb, hn]
  by_cases h0 : n = 0
  · rw [if_pos h0, if_pos h0]
  · rw [if_neg h0, if_neg h0, hb (n - 1) (by omega)]
theorem s_append {K : gW → Prop} {a : Nat} {c' : Nat → Nat} (hW : WR M q c n) (hn : n < 15) (hc : ∀ i, i < n → c i < 26) (ha : a < 26) (hb : ∀ i, i < n → c' i = c i) (hn' : c' n = a) (h : ∀ M', WR M' q c' (n + 1) → Fr (fun f k => (f = 7 ∨ f = 8 ∨ f = 9) ∧ k = q) M M' → K M') : wX6_append M q (nI a) K := by
  have hl := ptF_len c n
  have hlt := ptF_lt n hc
  unfold wX6_append
  rw [hW.1]
  refine pk_lt n 15 (fun _ => ?_) (fun z => absurd z (by omega))
  refine s_addPart hW.pl (by omega) hlt (by omega) (fun M2 hP2 e2 hF2 => ?_)
  have n2 : M2 7 q 2 = nI n := e2.trans hW.1
  have l2 : ∀ j, j < n → M2 8 q j = nI (c j) := fun j hj => by rw [hF2 8 q (by omega)]; exact hW.2.1 j hj
  have hs := ptF_snoc (c := c) hb hn'
  rw [n2]
  refine pk_le n 0 (fun z => ⟨pk_in n 15 hn, fun M5 e5 M7 e7 => ?_⟩) (fun z => ?_)
  · obtain rfl : n = 0 := by omega
    rw [nI_clamp (by omega)] at e5
    refine h M7 ⟨?_, fun j hj => ?_, ?_, fun i hi => ?_⟩ (((hF2.mono (fun f k z => by omega)).st e5 ⟨by omega, rfl⟩).st e7 ⟨by omega, rfl⟩)
    · rw [e7, gU_same, upd_at, if_pos rfl, e5, gU_o (by decide), n2, nI_add1]
    · obtain rfl : j = 0 := by omega
      rw [e7, gU_o (by decide), e5, gU_same, upd_at, if_pos rfl, hn']
    · rw [e7, gU_same, upd_at, if_neg (by decide), e5, gU_o (by decide), hP2.1, hs, if_pos rfl]
    · rw [hs, if_pos rfl] at hi ⊢
      rw [e7, gU_o (by decide), e5, gU_o (by decide)]; exact hP2.2 i hi
  · have es : nI n - (1 : Int32) = nI (n - 1) := pk_sub (b := 1) (by omega)
    rw [es]
    refine ⟨pk_in (n - 1) 15 (by omega), ?_⟩
    rw [nI_clamp (by omega), l2 (n - 1) (by omega)]
    refine s_joinPart ?_
    have hj := jn_lt (hc (n - 1) (by omega)) ha
    refine s_addPart hP2 (by have := addP_len (ptF c n) a; omega) (addP_lt hlt (by omega)) hj (fun M3 hP3 e3 hF3 => ?_)
    have n3 : M3 7 q 2 = nI n := e3.trans n2
    rw [n3]
    refine ⟨pk_in n 15 hn, fun M5 e5 M7 e7 => ?_⟩
    rw [nI_clamp (by omega)] at e5
    refine h M7 ⟨?_, fun j hj => ?_, ?_, fun i hi => ?_⟩ ((((hF2.tr hF3).mono (fun f k z => by omega)).st e5 ⟨by omega, rfl⟩).st e7 ⟨by omega, rfl⟩)
    · rw [e7, gU_same, upd_at, if_pos rfl, e5, gU_o (by decide), n3, nI_add1]
    · rw [e7, gU_o (by decide), e5, gU_same, upd_at]
      by_cases hjn : j = n
      · rw [if_pos hjn, hjn, hn']
      · rw [if_neg hjn, hF3 8 q (by omega), l2 j (by omega), hb j (by omega)]
    · rw [e7, gU_same, upd_at, if_neg (by decide), e5, gU_o (by decide), hP3.1, hs, if_neg (by omega)]
    · rw [hs, if_neg (by omega)] at hi ⊢
      rw [e7, gU_o (by decide), e5, gU_o (by decide)]; exact hP3.2 i hi
theorem s_clearW {K : gW → Prop} (h : ∀ M', WR M' q c 0 → Fr (fun f k => f = 7 ∧ k = q) M M' → K M') : wX6_clear M q K := by
  intro M1 e1 M3 e3
  refine h M3 ⟨?_, fun j hj => absurd hj (by omega), ?_, fun i hi => absurd hi (by simp [ptF])⟩ ((Fr.rf.st e1 ⟨rfl, rfl⟩).st e3 ⟨rfl, rfl⟩)
  · rw [e3, gU_same, upd_at, if_neg (by decide), e1, gU_same, upd_at, if_pos rfl]; rfl
  · rw [e3, gU_same, upd_at, if_pos rfl]; rfl
theorem WR.cg {c' : Nat → Nat} (h : WR M q c n) (e : ∀ i, i < n → c' i = c i) : WR M q c' n := by
  obtain ⟨h1, h2, h3, h4⟩ := h
  have ep := ptF_congr n e
  exact ⟨h1, fun j hj => by rw [e j hj]; exact h2 j hj, by rw [ep]; exact h3, by rw [ep]; exact h4⟩
theorem s_take {K : Int32 → gW → Prop} (hk : k < 7) (hL : LR M k S) (hO : OkL S) (hW : WR M 140 c n) (h1 : 1 ≤ n) (hn : n ≤ 15) (hc : ∀ i, i < n → c i < 26) (hy : ∀ S' M', addW S c n = some S' → LR M' k S' → Fr (ownL k) M M' → K 1 M') (hno : addW S c n = none → K 0 M) : wX7_take M k 140 K := by
  obtain ⟨⟨h5, hN⟩, hw⟩ := hO
  refine ⟨_, p_loop0 (fun f i => (∀ w, w < i → ¬ (sL S w = n ∧ ∀ j, j < n → sC S w j = c j)) → wX7_take_L2 k 140 K (fun M9 x2_10 => (((M9 5 k 1) < (20 : Int32) → ((vp_in (M9 5 k 1) 20) ∧ (wX6_copyFrom M9 (20 * k + (M9 5 k 1).toNatClampNeg) 140 (fun M13 => (∀ M14 : gW, M14 = gU M13 5 k (upd (M13 5 k) 1 ((M13 5 k 1) + (1 : Int32))) → (K (1 : Int32) M14)))))) ∧ (¬ ((M9 5 k 1) < (20 : Int32)) → (K (0 : Int32) M9)))) f M (nI i)) (sN S) ?_ ?_ (fun w hw => absurd hw (by omega))⟩
  · intro f hall
    have hon : ¬ onB S c n = true := fun z => by
      obtain ⟨w, hw', h1', h2'⟩ := onB_iff.mp z
      exact hall w hw' ⟨h1', h2'⟩
    refine br_t (by rw [hL.1, h5]; exact nI_le (by omega) (by omega)) ?_
    dsimp only
    rw [hL.1, h5]
    refine pk_lt (sN S) 20 (fun z => ⟨pk_in _ 20 z, ?_⟩) (fun z => hno (by unfold addW; rw [if_neg hon, if_pos (by omega)]))
    rw [nI_clamp (by omega)]
    refine s_copyW hW hn (fun M1 hW1 hF1 M2 e2 => ?_)
    have hF2 : Fr (fun f k' => f = 5 ∧ k' = k) M1 M2 := Fr.rf.st e2 ⟨rfl, rfl⟩
    have eN := appW_N (c := c) (n := n) h5 hN
    refine hy (appW S c n) M2 (by unfold addW; rw [if_neg hon, if_neg (by omega)]) ⟨?_, fun w hw' => ?_⟩ ((hF1.mono (fun f k z => Or.inr ⟨z.1, by omega, by omega⟩)).tr (hF2.mono (fun f k z => Or.inl z)))
    · rw [e2, gU_same, upd_at, if_pos rfl, hF1 5 k (by omega), hL.1, appW_5]
    · rw [eN] at hw'
      by_cases hws : w = sN S
      · subst hws
        have hnew := appW_new (S := S) hn hc
        rw [hnew.1]
        exact (hW1.fr hF2 (by omega) (by omega) (by omega)).cg (fun i hi => hnew.2 i hi)
      · have ho := hw w (by omega)
        have hold := appW_word (c := c) (n := n) (show w < sN S by omega) ho.2.2.1
        rw [hold.1]
        exact (((hL.2 w (by omega)).fr hF1 (by omega) (by omega) (by omega)).fr hF2 (by omega) (by omega) (by omega)).cg (fun i hi => hold.2 i hi)
  · intro f i hi ih hall
    have ho := hw i hi
    refine br_f (by rw [hL.1, h5]; exact nI_ge hi (by omega)) ⟨pk_in i 20 (by omega), ?_⟩
    rw [nI_clamp (by omega)]
    refine s_isSpelledAs (hL.2 i hi).lw hW.lw ho.2.2.1 hn (fun j hj => (ho.2.2.2 j hj).2) hc (fun z => br_f (by decide) ?_) (fun z => br_t rfl ?_)
    · have hon : onB S c n = true := onB_iff.mpr ⟨i, hi, z.1, fun j hj => z.2 j (by omega)⟩
      exact hy S M (by unfold addW; rw [if_pos hon]) hL Fr.rf
    · rw [nI_add1]
      refine ih (fun w hw' => ?_)
      rcases Nat.lt_or_ge w i with y | y
      · exact hall w y
      · obtain rfl : w = i := by omega
        exact fun y2 => z ⟨y2.1, fun j hj => y2.2 j (by omega)⟩
/-! a word is removed -/
theorem rmW_5 {w : Nat} : rmW S w 5 = S 5 - 1 := by unfold rmW; rw [if_pos rfl]
theorem rmW_N {w : Nat} (h5 : S 5 = nI (sN S)) (hN : sN S ≤ 20) (hw : w < sN S) : sN (rmW S w) = sN S - 1 := by
  unfold sN; rw [rmW_5]; show (S 5 - 1).toNatClampNeg = sN S - 1
  have e : nI (sN S) - (1 : Int32) = nI (sN S - 1) := pk_sub (b := 1) (by omega)
  rw [h5, e]; exact nI_clamp (by omega)
theorem rmW_at {w i x : Nat} (hx : x < 16) (hi : i < sN S - 1) : rmW S w (1410 + 16 * i + x) = if w ≤ i then S (1410 + 16 * (i + 1) + x) else S (1410 + 16 * i + x) := by
  unfold rmW
  rw [if_neg (by omega)]
  by_cases h : w ≤ i
  · rw [if_pos h, if_pos ⟨by omega, by omega⟩]; congr 1; omega
  · rw [if_neg h, if_neg (by omega)]
theorem rmW_word {w i : Nat} (hi : i < sN S - 1) : sL (rmW S w) i = sL S (if w ≤ i then i + 1 else i) ∧ ∀ j, j < 15 → sC (rmW S w) i j = sC S (if w ≤ i then i + 1 else i) j ∧ rmW S w (1410 + 16 * i + 1 + j) = S (1410 + 16 * (if w ≤ i then i + 1 else i) + 1 + j) := by
  have e0 := rmW_at (S := S) (w := w) (x := 0) (by omega) hi
  rw [Nat.add_zero, Nat.add_zero, Nat.add_zero] at e0
  refine ⟨?_, fun j hj => ?_⟩
  · unfold sL; rw [e0]; split <;> rfl
  · have e1 := rmW_at (S := S) (w := w) (x := 1 + j) (by omega) hi
    rw [← Nat.add_assoc, ← Nat.add_assoc] at e1
    have e2 : rmW S w (1410 + 16 * i + 1 + j) = S (1410 + 16 * (if w ≤ i then i + 1 else i) + 1 + j) := by rw [e1]; split <;> rfl
    exact ⟨by unfold sC; rw [e2], e2⟩
theorem rmW_ok {w : Nat} (hO : OkL S) (hw : w < sN S) : OkL (rmW S w) := by
  have eN := rmW_N hO.1.1 hO.1.2 hw
  have e : nI (sN S) - (1 : Int32) = nI (sN S - 1) := pk_sub (b := 1) (by omega)
  have hN := hO.1.2
  refine ⟨⟨by rw [eN, rmW_5, hO.1.1, e], by omega⟩, fun i hi => ?_⟩
  rw [eN] at hi
  have h := rmW_word (w := w) hi
  have e0 := rmW_at (S := S) (w := w) (x := 0) (by omega) hi
  rw [Nat.add_zero, Nat.add_zero, Nat.add_zero] at e0
  have ho := hO.2 (if w ≤ i then i + 1 else i) (by split <;> omega)
  have h15 := ho.2.2.1
  refine ⟨?_, by rw [h.1]; exact ho.2.1, by rw [h.1]; exact ho.2.2.1, fun j hj => ?_⟩
  · rw [h.1, e0, ← ho.1]; split <;> rfl
  · rw [h.1] at hj
    rw [(h.2 j (by omega)).1, (h.2 j (by omega)).2]; exact ho.2.2.2 j hj
theorem s_drop {K : gW → Prop} {w : Nat} (hL : LR M k S) (hO : OkL S) (hw : w < sN S) (h : ∀ M', LR M' k (rmW S w) → Fr (ownL k) M M' → K M') : wX7_drop M k (nI w) K := by
  obtain ⟨⟨h5, hN⟩, ho⟩ := hO
  unfold wX7_drop
  rw [hL.1, h5]
  refine br_f (nI_pos (by omega)) (pk_lt w (sN S) (fun _ => ?_) (fun z => absurd z (by omega)))
  rw [nI_add1]
  refine ⟨_, p_loop (fun f i => w < i → ∀ M2, M2 5 k 1 = nI (sN S) → (∀ v, v < sN S → WR M2 (20 * k + v) (sC S (if w ≤ v ∧ v + 1 < i then v + 1 else v)) (sL S (if w ≤ v ∧ v + 1 < i then v + 1 else v))) → Fr (ownL k) M M2 → wX7_drop_L17 k (fun M10 x2_11 => (∀ M12 : gW, M12 = gU M10 5 k (upd (M10 5 k) 1 ((M10 5 k 1) - (1 : Int32))) → (K M12))) f M2 (nI i)) (sN S) ?_ ?_ (sN S - (w + 1)) (w + 1) (by omega) (by omega) M (by rw [hL.1, h5]) (fun v hv => by rw [if_neg (by omega)]; exact hL.2 v hv) Fr.rf⟩
  · intro f _ M2 e2 hr hF2
    refine br_t (by rw [e2]; exact nI_le (by omega) (by omega)) (fun M3 e3 => ?_)
    have hF3 : Fr (fun f k' => f = 5 ∧ k' = k) M2 M3 := Fr.rf.st e3 ⟨rfl, rfl⟩
    have eN := rmW_N (w := w) h5 hN hw
    refine h M3 ⟨?_, fun v hv => ?_⟩ (hF2.tr (hF3.mono (fun f k z => Or.inl z)))
    · rw [e3, gU_same, upd_at, if_pos rfl, e2, rmW_5, h5]
    · rw [eN] at hv
      have hv2 := rmW_word (w := w) hv
      have hq := (hr v (by omega)).fr hF3 (by omega) (by omega) (by omega)
      have hov := ho (if w ≤ v then v + 1 else v) (by split <;> omega)
      have h15 := hov.2.2.1
      have ec : (if w ≤ v ∧ v + 1 < sN S then v + 1 else v) = (if w ≤ v then v + 1 else v) := by
        by_cases z : w ≤ v
        · rw [if_pos z, if_pos ⟨z, by omega⟩]
        · rw [if_neg z, if_neg (fun y => z y.1)]
      rw [ec] at hq
      rw [hv2.1]
      exact hq.cg (fun i hi => (hv2.2 i (by omega)).1)
  · intro f i hi ih hwi M2 e2 hr hF2
    · have es : nI i - (1 : Int32) = nI (i - 1) := pk_sub (b := 1) (by omega)
      refine br_f (by rw [e2]; exact nI_ge hi (by omega)) ?_
      rw [es]
      refine ⟨pk_in (i - 1) 20 (by omega), pk_in i 20 (by omega), ?_⟩
      rw [nI_clamp (by omega), nI_clamp (by omega)]
      have hq := hr i hi
      rw [if_neg (by omega)] at hq
      refine s_copyW hq (ho i hi).2.2.1 (fun M3 hW3 hF3 => ?_)
      rw [nI_add1]
      refine ih (by omega) M3 (by rw [hF3 5 k (by omega)]; exact e2) (fun v hv => ?_) (hF2.tr (hF3.mono (fun f k z => Or.inr ⟨z.1, by omega, by omega⟩)))
      by_cases hvi : v = i - 1
      · subst hvi
        rw [if_pos ⟨by omega, by omega⟩, show i - 1 + 1 = i by omega]; exact hW3
      · have hp := hr v hv
        have ec : (if w ≤ v ∧ v + 1 < i + 1 then v + 1 else v) = (if w ≤ v ∧ v + 1 < i then v + 1 else v) := by
          by_cases z : w ≤ v ∧ v + 1 < i
          · rw [if_pos z, if_pos ⟨z.1, by omega⟩]
          · rw [if_neg z, if_neg (by omega)]
        rw [ec]
        exact hp.fr hF3 (by omega) (by omega) (by omega)
end WL
