/-! ===== LAYER 2: the class's sheets ===== -/
def b2 (b : Bool) : Int32 := if b then 1 else 0
def covB (S : gR) (ws : List Nat) (p : Nat) : Bool := ws.any (fun w => decide (p ∈ sPt S w))
def gnP (S : gR) (ws : List Nat) (p : Nat) : Nat := if S (6 + p) = 0 then (S 0).toNatClampNeg else if covB S ws p then nd S p / 2 else nd S p
def gainF (S : gR) (ws l : List Nat) : Nat := sumTo (fun i => gnP S ws (l.getD i 0)) l.length
def gain (S : gR) (ws : List Nat) (w : Nat) : Nat := gainF S ws (sPt S w)
theorem gnP_le {S : gR} {ws : List Nat} {p u : Nat} (hO : OkP S) (hu : S 0 = nI u) (hu9 : u ≤ 99) (hp : p < 702) : gnP S ws p ≤ 99 := by
  have := nd_le hO hp
  unfold gnP
  split
  · rw [hu, nI_clamp (by omega)]; exact hu9
  · split <;> omega
theorem gainF_le {S : gR} {ws l : List Nat} {u : Nat} (hO : OkP S) (hu : S 0 = nI u) (hu9 : u ≤ 99) (hl : ∀ q ∈ l, q < 702) (h29 : l.length ≤ 29) : gainF S ws l ≤ 2871 := by
  have h := sumTo_le (g := fun i => gnP S ws (l.getD i 0)) (b := 99) l.length (fun k hk => gnP_le hO hu hu9 (getD_lt hl hk))
  have : l.length * 99 ≤ 29 * 99 := Nat.mul_le_mul_right _ h29
  unfold gainF; omega
theorem covB_app (S : gR) (ws : List Nat) (w p : Nat) : covB S (ws ++ [w]) p = (covB S ws p || decide (p ∈ sPt S w)) := by
  unfold covB; rw [List.any_append]; simp
/-- the best word for the next line, of the first i: the word and its gain -/
def bstep (S : gR) (ws : List Nat) (i : Nat) (r : Option Nat × Nat) : Option Nat × Nat :=
  if i ∈ ws then r else if r.2 < gain S ws i then (some i, gain S ws i) else
    match r.1 with
    | none => r
    | some b => if gain S ws i = r.2 ∧ sL S i < sL S b then (some i, gain S ws i) else r
def bstF (S : gR) (ws : List Nat) : Nat → Option Nat × Nat
  | 0 => (none, 0)
  | i + 1 => bstep S ws i (bstF S ws i)
def oI : Option Nat → Int32
  | none => -5
  | some b => nI b
def oL (S : gR) : Option Nat → Nat
  | none => 0
  | some b => sL S b
theorem bstF_ok (S : gR) (ws : List Nat) : ∀ i, ((bstF S ws i).1 = none → (bstF S ws i).2 = 0) ∧ ∀ b, (bstF S ws i).1 = some b → b < i ∧ b ∉ ws ∧ (bstF S ws i).2 = gain S ws b ∧ 0 < gain S ws b
  | 0 => ⟨fun _ => rfl, fun b h => by cases h⟩
  | i + 1 => by
    have ih := bstF_ok S ws i
    have ih2 : ∀ b, (bstF S ws i).1 = some b → b < i + 1 ∧ b ∉ ws ∧ (bstF S ws i).2 = gain S ws b ∧ 0 < gain S ws b := fun b hb => ⟨by have := (ih.2 b hb).1; omega, (ih.2 b hb).2⟩
    show ((bstep S ws i (bstF S ws i)).1 = none → (bstep S ws i (bstF S ws i)).2 = 0) ∧ ∀ b, (bstep S ws i (bstF S ws i)).1 = some b → b < i + 1 ∧ b ∉ ws ∧ (bstep S ws i (bstF S ws i)).2 = gain S ws b ∧ 0 < gain S ws b
    unfold bstep
    by_cases h1 : i ∈ ws
    · rw [if_pos h1]; exact ⟨ih.1, ih2⟩
    · rw [if_neg h1]
      by_cases h2 : (bstF S ws i).2 < gain S ws i
      · rw [if_pos h2]
        refine ⟨fun z => (by cases z), fun b z => ?_⟩
        cases z
        exact ⟨by omega, h1, rfl, by omega⟩
      · rw [if_neg h2]
        cases hb : (bstF S ws i).1 with
        | none => exact ⟨fun _ => ih.1 hb, fun b z => by rw [hb] at z; cases z⟩
        | some b =>
          have hi := ih.2 b hb
          dsimp only
          by_cases h3 : gain S ws i = (bstF S ws i).2 ∧ sL S i < sL S b
          · rw [if_pos h3]
            refine ⟨fun z => (by cases z), fun b' z => ?_⟩
            cases z
            exact ⟨by omega, h1, rfl, by omega⟩
          · rw [if_neg h3]; exact ⟨ih.1, ih2⟩
/-- the words of the sheet of k lines, in their order -/
def shF (S : gR) : Nat → List Nat
  | 0 => []
  | k + 1 => match (bstF S (shF S k) (sN S)).1 with
    | none => shF S k
    | some w => shF S k ++ [w]
theorem shF_stop {S : gR} {k : Nat} (h : (bstF S (shF S k) (sN S)).1 = none) : ∀ d, shF S (k + d) = shF S k
  | 0 => rfl
  | d + 1 => by
    have e := shF_stop h d
    show (match (bstF S (shF S (k + d)) (sN S)).1 with | none => shF S (k + d) | some w => shF S (k + d) ++ [w]) = _
    rw [e, h]
theorem shF_len (S : gR) : ∀ k, (shF S k).length ≤ k
  | 0 => by simp [shF]
  | k + 1 => by
    have := shF_len S k
    simp only [shF]
    split
    · omega
    · rw [List.length_append]; simp; omega
theorem shF_lt (S : gR) : ∀ k, ∀ w ∈ shF S k, w < sN S
  | 0 => by simp [shF]
  | k + 1 => by
    have ih := shF_lt S k
    simp only [shF]
    split
    · exact ih
    · rename_i w hw
      intro x hx
      rcases List.mem_append.mp hx with h | h
      · exact ih x h
      · rw [List.mem_singleton.mp h]; exact ((bstF_ok S _ _).2 w hw).1
/-- the plan holds the lines ws -/
def PLR (M : gW) (S : gR) (ws : List Nat) : Prop := M 14 0 4 = nI ws.length ∧ ws.length ≤ 10 ∧ (∀ i, i < ws.length → M 15 0 i = nI (ws.getD i 0) ∧ M 16 0 i = nI (gain S (ws.take i) (ws.getD i 0))) ∧ (∀ p, p < 702 → M 17 0 p = b2 (covB S ws p)) ∧ (∀ w, w < 20 → M 18 0 w = b2 (decide (w ∈ ws))) ∧ ∀ w ∈ ws, w < sN S
def plF : Nat → Nat → Prop := fun f _ => 14 ≤ f ∧ f ≤ 18
section SH
variable {M M' : gW} {k p q n u : Nat} {S T : gR} {c : Nat → Nat} {ws : List Nat}
theorem s_clear {K : gW → Prop} (h : ∀ M', PLR M' S [] → Fr plF M M' → K M') : wX3_clear M K := by
  refine ⟨_, p_loop0 (fun f i => ∀ M2, (∀ p, p < i → M2 17 0 p = 0) → Fr plF M M2 → wX3_clear_L2 (fun M8 x1_9 => (∃ n21 : Nat, wX3_clear_L24 (fun M17 x1_18 => (∀ M19 : gW, M19 = gU M17 14 0 (upd (M17 14 0) 4 (0 : Int32)) → (K M19))) n21 M8 (0 : Int32))) f M2 (nI i)) 702 ?_ ?_ M (fun p hp => absurd hp (by omega)) Fr.rf⟩
  · intro f M2 hz hF
    refine br_t (nI_le (a := 702) (b := 702) (by omega) (by omega)) ⟨_, p_loop0 (fun f i => ∀ M3, (∀ p, p < 702 → M3 17 0 p = 0) → (∀ p, p < i → M3 18 0 p = 0) → Fr plF M M3 → wX3_clear_L24 (fun M17 x1_18 => (∀ M19 : gW, M19 = gU M17 14 0 (upd (M17 14 0) 4 (0 : Int32)) → (K M19))) f M3 (nI i)) 20 ?_ ?_ M2 hz (fun p hp => absurd hp (by omega)) hF⟩
    · intro f M3 h1 h2 hF3
      refine br_t (nI_le (a := 20) (b := 20) (by omega) (by omega)) (fun M4 e4 => h M4 ⟨?_, by simp, fun i hi => absurd hi (by simp), fun p hp => ?_, fun w hw => ?_, fun w hw => absurd hw (by simp)⟩ (hF3.st e4 ⟨by omega, by omega⟩))
      · rw [e4, gU_same, upd_at, if_pos rfl]; rfl
      · rw [e4, gU_o (by decide), h1 p hp]; rfl
      · rw [e4, gU_o (by decide), h2 w hw]; rfl
    · intro f i hi ih M3 h1 h2 hF3
      refine br_f (nI_ge (a := i) (b := 20) hi (by omega)) ⟨pk_in i 20 (by omega), fun M4 e4 => ?_⟩
      rw [nI_clamp (by omega)] at e4
      rw [nI_add1]
      refine ih M4 (fun p hp => ?_) (fun p hp => ?_) (hF3.st e4 ⟨by omega, by omega⟩)
      · rw [e4, gU_o (by decide)]; exact h1 p hp
      · rw [e4, gU_same, upd_at]
        split
        · rfl
        · exact h2 p (by omega)
  · intro f i hi ih M2 hz hF
    refine br_f (nI_ge (a := i) (b := 702) hi (by omega)) ⟨pk_in i 702 (by omega), fun M4 e4 => ?_⟩
    rw [nI_clamp (by omega)] at e4
    rw [nI_add1]
    refine ih M4 (fun p hp => ?_) (hF.st e4 ⟨by omega, by omega⟩)
    rw [e4, gU_same, upd_at]
    split
    · rfl
    · exact hz p (by omega)
theorem s_gainOf {K : Int32 → gW → Prop} (hR : PR M k S) (hO : OkP S) (h0 : M 1 k 3 = S 0) (hu : S 0 = nI u) (hu9 : u ≤ 99) (hcov : ∀ p, p < 702 → M 17 0 p = b2 (covB S ws p)) (hW : WR M q c n) (hn : n ≤ 15) (hc : ∀ i, i < n → c i < 26) (h : K (nI (gainF S ws (ptF c n))) M) : wX3_gainOf M q k K := by
  have hl := ptF_len c n
  have hlt := ptF_lt n hc
  refine ⟨_, p_loop0 (fun f i => wX3_gainOf_L5 q k (fun M21 x3_22 x4_23 => K x3_22 M21) f M (nI (sumTo (fun i => gnP S ws ((ptF c n).getD i 0)) i)) (nI i)) (ptF c n).length ?_ ?_⟩
  · intro f; exact br_t (by rw [hW.2.2.1]; exact nI_le (by omega) (by omega)) h
  · intro f i hi ih
    refine br_f (by rw [hW.2.2.1]; exact nI_ge hi (by omega)) ⟨pk_in i 29 (by omega), ?_⟩
    rw [nI_clamp (by omega), hW.2.2.2 i hi]
    have hp := getD_lt hlt hi
    simp only [sumTo] at ih
    refine s_isUntried hR hp (fun z => br_f (by decide) ?_) (fun z => br_t rfl ?_)
    · rw [h0, hu, nI_add, nI_add1]
      have e : gnP S ws ((ptF c n).getD i 0) = u := by unfold gnP; rw [if_pos z, hu, nI_clamp (by omega)]
      rw [e] at ih; exact ih
    · refine s_isPart hp (br_f (by decide) ⟨pk_in _ 702 hp, ?_⟩)
      rw [nI_clamp (by omega), hcov _ hp]
      cases hcb : covB S ws ((ptF c n).getD i 0) with
      | false =>
        refine br_t rfl (s_needOf hR hO hp ?_)
        have e : gnP S ws ((ptF c n).getD i 0) = nd S ((ptF c n).getD i 0) := by unfold gnP; rw [if_neg z, hcb]; rfl
        rw [e] at ih
        rw [nI_add, nI_add1]; exact ih
      | true =>
        refine br_f (by decide) (s_needOf hR hO hp ?_)
        have e : gnP S ws ((ptF c n).getD i 0) = nd S ((ptF c n).getD i 0) / 2 := by unfold gnP; rw [if_neg z, hcb]; rfl
        rw [e] at ih
        have := nd_le hO hp
        have e2 : nI (nd S ((ptF c n).getD i 0)) / (2 : Int32) = nI (nd S ((ptF c n).getD i 0) / 2) := pk_div (d := 2) (by omega) (by omega) (by omega)
        rw [e2, nI_add, nI_add1]; exact ih
theorem s_addLine {K : gW → Prop} {w : Nat} (hP : PLR M S ws) (hw : w < sN S) (hN : sN S ≤ 20) (hlen : ws.length < 10) (hW : WR M q (sC S w) (sL S w)) (hO : OkW S w) (h : ∀ M', PLR M' S (ws ++ [w]) → Fr plF M M' → K M') : wX3_addLine M (nI w) (nI (gain S ws w)) q K := by
  obtain ⟨h1, h2, h3, h4, h5, h6⟩ := hP
  have hl := ptF_len (sC S w) (sL S w)
  have hlt := ptF_lt (sL S w) (fun i hi => (hO.2.2.2 i hi).2)
  have h15 := hO.2.2.1
  have hcl : (nI ws.length).toNatClampNeg = ws.length := nI_clamp (by omega)
  refine ⟨by rw [h1]; exact pk_in _ 10 hlen, fun M2 e2 => ⟨by rw [e2, gU_o (by decide), h1]; exact pk_in _ 10 hlen, fun M5 e5 M7 e7 => ⟨pk_in w 20 (by omega), fun M10 e10 => ?_⟩⟩⟩
  rw [h1, hcl] at e2
  have s2 : M2 14 0 4 = nI ws.length := by rw [e2, gU_o (by decide)]; exact h1
  rw [s2, hcl] at e5
  have s5 : M5 14 0 4 = nI ws.length := by rw [e5, gU_o (by decide)]; exact s2
  rw [s5, nI_add1] at e7
  rw [nI_clamp (by omega)] at e10
  have hFa : Fr plF M M10 := (((Fr.rf.st e2 ⟨by omega, by omega⟩).st e5 ⟨by omega, by omega⟩).st e7 ⟨by omega, by omega⟩).st e10 ⟨by omega, by omega⟩
  have c10 : ∀ p, p < 702 → M10 17 0 p = b2 (covB S ws p) := fun p hp => by
    rw [e10, gU_o (by decide), e7, gU_o (by decide), e5, gU_o (by decide), e2, gU_o (by decide)]; exact h4 p hp
  have W10 : WR M10 q (sC S w) (sL S w) := hW.fr hFa (by unfold plF; omega) (by unfold plF; omega) (by unfold plF; omega)
  refine ⟨_, p_loop0 (fun f i => ∀ M2, (∀ p, p < 702 → M2 17 0 p = b2 (covB S ws p || decide (∃ j, j < i ∧ (sPt S w).getD j 0 = p))) → Fr (fun f _ => f = 17) M10 M2 → wX3_addLine_L40 q (fun M24 x4_25 => K M24) f M2 (nI i)) (sPt S w).length ?_ ?_ M10 (fun p hp => ?_) Fr.rf⟩
  · intro f M3 hc3 hF3
    have W3 : WR M3 q (sC S w) (sL S w) := W10.fr hF3 (by omega) (by omega) (by omega)
    refine br_t (by rw [W3.2.2.1]; exact nI_le (Nat.le_refl _) (by unfold sPt; omega)) (h M3 ⟨?_, ?_, fun i hi => ?_, fun p hp => ?_, fun x hx => ?_, fun x hx => ?_⟩ (hFa.tr (hF3.mono (fun f k z => by unfold plF; omega))))
    · rw [hF3 14 0 (by omega), e10, gU_o (by decide), e7, gU_same, upd_at, if_pos rfl, List.length_append]; rfl
    · rw [List.length_append]; simp; omega
    · rw [List.length_append] at hi
      simp only [List.length_singleton] at hi
      rw [hF3 15 0 (by omega), hF3 16 0 (by omega), e10, gU_o (by decide), gU_o (by decide), e7, gU_o (by decide), gU_o (by decide), e5, gU_o (by decide), gU_same, e2, gU_same, gU_o (by decide), upd_at, upd_at]
      by_cases hil : i = ws.length
      · subst hil
        rw [if_pos rfl, if_pos rfl, getD_last, List.take_left']
        · exact ⟨rfl, rfl⟩
        · rfl
      · rw [if_neg hil, if_neg hil, getD_app (by omega), List.take_append_of_le_length (by omega)]
        exact h3 i (by omega)
    · rw [hc3 p hp, covB_app]
      congr 2
      exact decide_eq_decide.mpr mem_iff_getD.symm
    · rw [hF3 18 0 (by omega), e10, gU_same, upd_at, e7, gU_o (by decide), e5, gU_o (by decide), e2, gU_o (by decide)]
      by_cases hxw : x = w
      · rw [if_pos hxw]; subst hxw; simp [b2]
      · rw [if_neg hxw, h5 x hx]
        congr 1
        exact decide_eq_decide.mpr ⟨fun z => List.mem_append_left _ z, fun z => (List.mem_append.mp z).elim id (fun y => absurd (List.mem_singleton.mp y) hxw)⟩
    · rcases List.mem_append.mp hx with z | z
      · exact h6 x z
      · rw [List.mem_singleton.mp z]; exact hw
  · intro f i hi ih M3 hc3 hF3
    have W3 : WR M3 q (sC S w) (sL S w) := W10.fr hF3 (by omega) (by omega) (by omega)
    have hi' : i < (ptF (sC S w) (sL S w)).length := hi
    have hp := getD_lt hlt hi'
    have hin : vp_in (nI i) 29 := pk_in i 29 (by omega)
    refine br_f (by rw [W3.2.2.1]; exact nI_ge hi' (by omega)) ⟨hin, ?_⟩
    rw [nI_clamp (by omega), W3.2.2.2 i hi']
    refine s_isPart hp (br_f (by decide) ⟨hin, ?_⟩)
    rw [W3.2.2.2 i hi']
    refine ⟨pk_in _ 702 hp, fun M4 e4 => ?_⟩
    rw [nI_clamp (by omega)] at e4
    rw [nI_add1]
    refine ih M4 (fun x hx => ?_) (hF3.st e4 rfl)
    rw [e4, gU_same, upd_at]
    by_cases hxp : x = (ptF (sC S w) (sL S w)).getD i 0
    · rw [if_pos hxp]
      have : decide (∃ j, j < i + 1 ∧ (sPt S w).getD j 0 = x) = true := decide_eq_true ⟨i, by omega, hxp.symm⟩
      rw [this, Bool.or_true]; rfl
    · rw [if_neg hxp, hc3 x hx]
      congr 2
      refine decide_eq_decide.mpr ⟨fun ⟨j, h1, h2⟩ => ⟨j, by omega, h2⟩, fun ⟨j, h1, h2⟩ => ⟨j, ?_, h2⟩⟩
      rcases Nat.lt_or_ge j i with z | z
      · exact z
      · obtain rfl : j = i := by omega
        exact absurd h2.symm hxp
  · rw [c10 p hp]; simp
end SH
