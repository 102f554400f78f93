/-! ===== LAYER 2: the class's choosing, and what is told of a sheet ===== -/
theorem p_loopS (P : Nat → Nat → Prop) (n : Nat) (h0 : ∀ f, P (f + 1) n) (hs : ∀ f i, i < n → P (f + 1) (i + 1) → P (f + 2) i) : ∀ d i, i + d = n → P (d + 1) i := by
  intro d
  induction d with
  | zero => intro i h; obtain rfl : i = n := by omega
            exact h0 0
  | succ d ih => intro i h; exact hs d i (by omega) (ih (i + 1) (by omega))
section BS
variable {S : gR} {ws : List Nat} {i : Nat} {r : Option Nat × Nat}
theorem bstep_in (h : i ∈ ws) : bstep S ws i r = r := by unfold bstep; rw [if_pos h]
theorem bstep_new (h : i ∉ ws) (h2 : r.2 < gain S ws i) : bstep S ws i r = (some i, gain S ws i) := by unfold bstep; rw [if_neg h, if_pos h2]
theorem bstep_tie (h : i ∉ ws) (h2 : gain S ws i = r.2) {b : Nat} (hb : r.1 = some b) (h3 : sL S i < sL S b) : bstep S ws i r = (some i, gain S ws i) := by
  unfold bstep; rw [if_neg h, if_neg (by omega), hb]; dsimp only; rw [if_pos ⟨h2, h3⟩]
theorem bstep_keep (h : i ∉ ws) (h2 : ¬ r.2 < gain S ws i) (h3 : ∀ b, r.1 = some b → ¬ (gain S ws i = r.2 ∧ sL S i < sL S b)) : bstep S ws i r = r := by
  unfold bstep; rw [if_neg h, if_neg h2]
  cases hb : r.1 with
  | none => rfl
  | some b => dsimp only; rw [if_neg (h3 b hb)]
end BS
theorem sPt_lt {S : gR} {w : Nat} (h : OkW S w) : ∀ q ∈ sPt S w, q < 702 := ptF_lt _ (fun i hi => (h.2.2.2 i hi).2)
theorem sPt_len {S : gR} {w : Nat} (h : OkW S w) : (sPt S w).length ≤ 29 := by
  have := ptF_len (sC S w) (sL S w); have := h.2.2.1; unfold sPt; omega
theorem gain_le {S : gR} {ws : List Nat} {w : Nat} (hO : Ok S) (hw : w < sN S) : gain S ws w ≤ 2871 := by
  obtain ⟨u, hu, hu9⟩ := hO.2.2.2.1
  exact gainF_le hO.1 hu hu9 (sPt_lt (hO.2.2.1 w hw)) (sPt_len (hO.2.2.1 w hw))
theorem bstF_le {S : gR} {ws : List Nat} (hO : Ok S) {i : Nat} (hi : i ≤ sN S) : (bstF S ws i).2 ≤ 2871 := by
  have h := bstF_ok S ws i
  cases hb : (bstF S ws i).1 with
  | none => rw [h.1 hb]; omega
  | some b => rw [(h.2 b hb).2.2.1]; exact gain_le hO (by have := (h.2 b hb).1; omega)
theorem oL_le {S : gR} {ws : List Nat} (hO : Ok S) {i : Nat} (hi : i ≤ sN S) : oL S (bstF S ws i).1 ≤ 15 := by
  have h := bstF_ok S ws i
  cases hb : (bstF S ws i).1 with
  | none => show 0 ≤ 15; omega
  | some b => exact (hO.2.2.1 b (by have := (h.2 b hb).1; omega)).2.2.1
section CH
variable {M M' : gW} {k p q n u : Nat} {S T : gR} {c : Nat → Nat} {ws : List Nat}
theorem s_chooseLine {K : Int32 → gW → Prop} (hC : CR M k S) (hO : Ok S) (hP : PLR M S ws) (hlen : ws.length < 10) (h0 : (bstF S ws (sN S)).1 = none → K 0 M) (h1 : ∀ w M', (bstF S ws (sN S)).1 = some w → PLR M' S (ws ++ [w]) → Fr plF M M' → K 1 M') : wX3_chooseLine M k K := by
  obtain ⟨u, hu, hu9⟩ := hO.2.2.2.1
  have hN := hO.2.1.2
  have h5 := hO.2.1.1
  have hL := hC.2.1
  refine ⟨_, p_loop0 (fun f i => wX3_chooseLine_L11 k (fun M16 x2_17 x3_18 x4_19 x5_20 => ((x2_17 = (-5 : Int32) → (K (0 : Int32) M16)) ∧ (¬ (x2_17 = (-5 : Int32)) → (((M16 14 0 4) < (10 : Int32) → ((vp_in x2_17 20) ∧ (wX3_addLine M16 x2_17 x3_18 (20 * k + x2_17.toNatClampNeg) (fun M24 => (K (1 : Int32) M24))))) ∧ (¬ ((M16 14 0 4) < (10 : Int32)) → (K (0 : Int32) M16)))))) f M (oI (bstF S ws i).1) (nI (bstF S ws i).2) (nI (oL S (bstF S ws i).1)) (nI i)) (sN S) ?_ ?_⟩
  · intro f
    refine br_t (by rw [hL.1, h5]; exact nI_le (by omega) (by omega)) ?_
    have hb := bstF_ok S ws (sN S)
    cases e : (bstF S ws (sN S)).1 with
    | none => exact br_t rfl (h0 e)
    | some w =>
      have hw := hb.2 w e
      have hwN := hw.1
      refine br_f (nI_ne_neg (by omega) (by decide)) (br_t ?_ ⟨pk_in w 20 (by omega), ?_⟩)
      · rw [hP.1]; exact nI_lt (b := 10) hlen (by omega)
      · show wX3_addLine M (nI w) (nI (bstF S ws (sN S)).2) (20 * k + (nI w).toNatClampNeg) _
        rw [nI_clamp (by omega), hw.2.2.1]
        exact s_addLine hP hwN hN hlen (hL.2 w hwN) (hO.2.2.1 w hwN) (fun M' hP' hF' => h1 w M' e hP' hF')
  · intro f i hi ih
    have hin : vp_in (nI i) 20 := pk_in i 20 (by omega)
    refine br_f (by rw [hL.1, h5]; exact nI_ge hi (by omega)) ⟨hin, ?_⟩
    rw [nI_clamp (by omega), hP.2.2.2.2.1 i (by omega)]
    have e1 : bstF S ws (i + 1) = bstep S ws i (bstF S ws i) := rfl
    by_cases hm : i ∈ ws
    · rw [decide_eq_true hm]
      refine br_f (by decide) ?_
      rw [e1, bstep_in hm] at ih
      rw [nI_add1]; exact ih
    · rw [decide_eq_false hm]
      refine br_t rfl ⟨hin, ?_⟩
      have ho := hO.2.2.1 i hi
      refine s_gainOf (ws := ws) hC.1 hO.1 hC.2.2.2.1 hu hu9 hP.2.2.2.1 (hL.2 i hi) ho.2.2.1 (fun j hj => (ho.2.2.2 j hj).2) ?_
      show (nI (bstF S ws i).2 < nI (gain S ws i) → _) ∧ _
      rw [(hL.2 i hi).1, nI_add1]
      have b1 : (bstF S ws i).2 ≤ 2871 := bstF_le hO (by omega)
      have b2 : gain S ws i ≤ 2871 := gain_le hO hi
      have b3 : oL S (bstF S ws i).1 ≤ 15 := oL_le hO (by omega)
      have b4 := ho.2.2.1
      refine pk_lt (bstF S ws i).2 (gain S ws i) (fun z => ?_) (fun z => pk_eq (gain S ws i) (bstF S ws i).2 (fun z2 => pk_le (oL S (bstF S ws i).1) (sL S i) (fun z3 => ?_) (fun z3 => ?_)) (fun z2 => ?_))
      · rw [e1, bstep_new hm z] at ih; exact ih
      · rw [e1, bstep_keep hm (by omega) (fun b hb y => by rw [hb] at z3; exact absurd z3 (by have := y.2; show ¬ sL S b ≤ _; omega))] at ih; exact ih
      · cases hb : (bstF S ws i).1 with
        | none => rw [hb] at z3; exact absurd z3 (Nat.not_lt_zero _)
        | some b => rw [e1, bstep_tie hm z2 hb (by rw [hb] at z3; exact z3)] at ih; exact ih
      · rw [e1, bstep_keep hm (by omega) (fun b hb y => z2 y.1)] at ih; exact ih
theorem s_choose {K : gW → Prop} {a : Nat} (hC : CR M k S) (hO : Ok S) (ha : a ≤ 10) (h : ∀ M', PLR M' S (shF S a) → Fr plF M M' → K M') : wX3_choose M k (nI a) K := by
  have hcp : ∀ f k', own k f k' → ¬ plF f k' := fun f k' z => by unfold own at z; unfold plF; omega
  refine s_clear (S := S) (fun M1 hP1 hF1 => ⟨_, p_loopS (fun f i => ∀ M2, PLR M2 S (shF S i) → Fr plF M M2 → wX3_choose_L9 k (nI a) (fun M10 x3_11 x4_12 => (K M10)) f M2 1 (nI i)) a ?_ ?_ a 0 (by omega) M1 hP1 hF1⟩)
  · intro f M2 hP2 hF2
    exact br_t (nI_le (Nat.le_refl _) (by omega)) (h M2 hP2 hF2)
  · intro f i hi ih M2 hP2 hF2
    refine br_f (nI_ge hi (by omega)) (br_f (by decide) ?_)
    refine s_chooseLine (hC.fr hF2 hO.2.1.2 hcp) hO hP2 (by have := shF_len S i; omega) (fun e => ?_) (fun w M' e hP' hF' => ?_)
    · have hst : shF S a = shF S i := by
        have := shF_stop e (a - i); rwa [show i + (a - i) = a by omega] at this
      rw [nI_add1]
      refine pk_le a (i + 1) (fun _ => h M2 (by rw [hst]; exact hP2) hF2) (fun _ => br_t rfl (h M2 (by rw [hst]; exact hP2) hF2))
    · rw [nI_add1]
      refine ih M' ?_ (hF2.tr hF')
      simp only [shF, e]; exact hP'
theorem s_coveredFrom {K : Int32 → gW → Prop} {a b : Nat} (hP : PLR M S ws) (hab : a ≤ b) (hb : b ≤ 702) (h : K (nI (sumTo (fun i => if covB S ws (a + i) then 1 else 0) (b - a))) M) : wX3_coveredFrom M (nI a) (nI b) K := by
  refine ⟨_, p_loop0 (fun f i => wX3_coveredFrom_L5 (nI b) (fun M8 x3_9 x4_10 => K x3_9 M8) f M (nI (sumTo (fun i => if covB S ws (a + i) then 1 else 0) i)) (nI (a + i))) (b - a) ?_ ?_⟩
  · intro f; exact br_t (nI_le (by omega) (by omega)) h
  · intro f i hi ih
    refine br_f (nI_ge (by omega) (by omega)) ⟨pk_in (a + i) 702 (by omega), ?_⟩
    rw [nI_clamp (by omega), hP.2.2.2.1 (a + i) (by omega)]
    simp only [sumTo] at ih
    cases hc : covB S ws (a + i) with
    | false => rw [hc] at ih; refine br_t rfl ?_; rw [nI_add1]; exact ih
    | true => rw [hc] at ih; refine br_f (by decide) ?_; rw [nI_add1, nI_add1]; exact ih
theorem s_needCovered {K : Int32 → gW → Prop} (hR : PR M k S) (hO : OkP S) (hP : PLR M S ws) (h : K (nI (sumTo (fun p => if covB S ws p then nd S p else 0) 702)) M) : wX3_needCovered M k K := by
  refine ⟨_, p_loop0 (fun f i => wX3_needCovered_L4 k (fun M8 x3_9 x4_10 => K x3_9 M8) f M (nI (sumTo (fun p => if covB S ws p then nd S p else 0) i)) (nI i)) 702 ?_ ?_⟩
  · intro f; exact br_t (nI_le (a := 702) (b := 702) (by omega) (by omega)) h
  · intro f i hi ih
    refine br_f (nI_ge (a := i) (b := 702) hi (by omega)) ⟨pk_in i 702 hi, ?_⟩
    rw [nI_clamp (by omega), hP.2.2.2.1 i hi]
    simp only [sumTo] at ih
    cases hc : covB S ws i with
    | false => rw [hc] at ih; refine br_t rfl ?_; rw [nI_add1]; exact ih
    | true => rw [hc] at ih; refine br_f (by decide) (s_needOf hR hO hi ?_); rw [nI_add, nI_add1]; exact ih
theorem s_sumOfGains {K : Int32 → gW → Prop} (hP : PLR M S ws) (h : K (nI (sumTo (fun i => gain S (ws.take i) (ws.getD i 0)) ws.length)) M) : wX3_sumOfGains M K := by
  have h10 := hP.2.1
  refine ⟨_, p_loop0 (fun f i => wX3_sumOfGains_L4 (fun M8 x3_9 x4_10 => K x3_9 M8) f M (nI (sumTo (fun i => gain S (ws.take i) (ws.getD i 0)) i)) (nI i)) ws.length ?_ ?_⟩
  · intro f; exact br_t (by rw [hP.1]; exact nI_le (Nat.le_refl _) (by omega)) h
  · intro f i hi ih
    refine br_f (by rw [hP.1]; exact nI_ge hi (by omega)) ⟨pk_in i 10 (by omega), ?_⟩
    rw [nI_clamp (by omega), (hP.2.2.1 i hi).2, nI_add, nI_add1]; exact ih
/-! a sheet that is done -/
def wrS (S : gR) (ws : List Nat) : gR := ws.foldl (fun T w => (seqW (sC S w) (sL S w)).foldl aT T) S
def prac (S : gR) (ws : List Nat) : gR := upd (upd (wrS S ws) 2 (S 2 + nI ws.length)) 4 (S 4 + 1)
theorem LR.cg (h : LR M k S) (e5 : T 5 = S 5) (e : ∀ i, 1410 ≤ i → T i = S i) : LR M k T := by
  have eN : sN T = sN S := by unfold sN; rw [e5]
  refine ⟨h.1.trans e5.symm, fun w hw => ?_⟩
  have eL : sL T w = sL S w := by unfold sL; rw [e _ (by omega)]
  have eC : sC T w = sC S w := by funext j; unfold sC; rw [e _ (by omega)]
  rw [eL, eC]; exact h.2 w (by omega)
theorem aT_other {i : Nat} (h : i < 6 ∨ 708 ≤ i) {p : Nat} (hp : p < 702) : aT S p i = S i := by
  unfold aT; rw [upd_at, if_neg (by omega)]
theorem aTs_other {i : Nat} (h : i < 6 ∨ 708 ≤ i) : ∀ (l : List Nat) (S : gR), (∀ p ∈ l, p < 702) → l.foldl aT S i = S i
  | [], _, _ => rfl
  | p :: l, S, hl => by
    rw [List.foldl_cons, aTs_other h l (aT S p) (fun x hx => hl x (List.mem_cons_of_mem _ hx)), aT_other h (hl p List.mem_cons_self)]
theorem seqW_lt {c : Nat → Nat} : ∀ n, (∀ i, i < n → c i < 26) → ∀ p ∈ seqW c n, p < 702
  | 0, _ => by simp [seqW]
  | n + 1, h => by
    have ih := seqW_lt n (fun i hi => h i (by omega))
    have hn := h n (by omega)
    intro p hp
    simp only [seqW] at hp
    rcases List.mem_append.mp hp with z | z
    · exact ih p z
    · by_cases h0 : n = 0
      · rw [if_pos h0] at z; rw [List.mem_singleton.mp z]; omega
      · rw [if_neg h0] at z
        have hj := jn_lt (h (n - 1) (by omega)) hn
        rcases List.mem_cons.mp z with y | y
        · omega
        · rw [List.mem_singleton.mp y]; exact hj
theorem wrS_other {i : Nat} (h : i < 6 ∨ 708 ≤ i) (hw : ∀ w, w < sN S → OkW S w) : ∀ (ws : List Nat) (T : gR), (∀ w ∈ ws, w < sN S) → ws.foldl (fun T w => (seqW (sC S w) (sL S w)).foldl aT T) T i = T i
  | [], _, _ => rfl
  | w :: l, T, hl => by
    rw [List.foldl_cons, wrS_other h hw l _ (fun x hx => hl x (List.mem_cons_of_mem _ hx)), aTs_other h _ _ (seqW_lt _ (fun i hi => ((hw w (hl w List.mem_cons_self)).2.2.2 i hi).2))]
theorem take_succ_getD {l : List Nat} {i : Nat} (hi : i < l.length) : l.take (i + 1) = l.take i ++ [l.getD i 0] := by
  rw [List.take_add_one, List.getD_eq_getElem?_getD, List.getElem?_eq_getElem hi]; rfl
theorem getD_mem {l : List Nat} {i : Nat} (hi : i < l.length) : l.getD i 0 ∈ l := by
  rw [List.getD_eq_getElem?_getD, List.getElem?_eq_getElem hi]; exact List.getElem_mem hi
theorem s_practise {K : gW → Prop} (hk : k < 7) (hC : CR M k S) (hO : Ok S) (hP : PLR M S ws) (h : ∀ M', CR M' k (prac S ws) → Fr (fun f k' => (f = 1 ∨ f = 3) ∧ k' = k) M M' → K M') : wX4_practise M k K := by
  have hL := hC.2.1
  have h10 := hP.2.1
  refine ⟨_, p_loop0 (fun f i => ∀ M2, PR M2 k (wrS S (ws.take i)) → M2 1 k 4 = S 2 + nI i → (∀ j, j ≠ 4 → M2 1 k j = M 1 k j) → Fr (fun f k' => (f = 1 ∨ f = 3) ∧ k' = k) M M2 → wX4_practise_L2 k (fun M13 x2_14 => (∀ M15 : gW, M15 = gU M13 1 k (upd (M13 1 k) 6 ((M13 1 k 6) + (1 : Int32))) → (K M15))) f M2 (nI i)) ws.length ?_ ?_ M hC.1 (by rw [hC.2.2.2.2.1]; exact (Int32.add_zero _).symm) (fun _ _ => rfl) Fr.rf⟩
  · intro f M2 hR2 h4 hj hF2
    refine br_t (by rw [hF2 14 0 (by omega), hP.1]; exact nI_le (Nat.le_refl _) (by omega)) (fun M3 e3 => ?_)
    rw [List.take_length] at hR2
    have hF3 : Fr (fun f k' => f = 1 ∧ k' = k) M2 M3 := Fr.rf.st e3 ⟨rfl, rfl⟩
    have hlo : ∀ i, i < 6 ∨ 708 ≤ i → wrS S ws i = S i := fun i hi => wrS_other hi hO.2.2.1 ws S hP.2.2.2.2.2
    have ep : ∀ i, i ≠ 2 → i ≠ 4 → prac S ws i = wrS S ws i := fun i h2 h4 => by unfold prac; rw [upd_at, if_neg h4, upd_at, if_neg h2]
    refine h M3 ⟨fun p hp => ?_, ?_, ?_, ?_, ?_, ?_, ?_⟩ (hF2.tr (hF3.mono (fun f k z => ⟨Or.inl z.1, z.2⟩)))
    · rw [ep _ (by omega) (by omega), ep _ (by omega) (by omega)]; exact (hR2.fr hF3 (by omega) (by omega)) p hp
    · exact ((hL.fr hF2 hO.2.1.2 (by omega) (fun w _ => ⟨by omega, by omega, by omega⟩)).fr hF3 hO.2.1.2 (by omega) (fun w _ => ⟨by omega, by omega, by omega⟩)).cg (by rw [ep _ (by omega) (by omega)]; exact hlo 5 (by omega)) (fun i hi => by rw [ep _ (by omega) (by omega)]; exact hlo i (by omega))
    · rw [e3, gU_same, upd_at, if_neg (by decide), hj 2 (by decide), ep _ (by omega) (by omega), hlo 1 (by omega)]; exact hC.2.2.1
    · rw [e3, gU_same, upd_at, if_neg (by decide), hj 3 (by decide), ep _ (by omega) (by omega), hlo 0 (by omega)]; exact hC.2.2.2.1
    · rw [e3, gU_same, upd_at, if_neg (by decide), h4]; unfold prac; rw [upd_at, if_neg (by decide), upd_at, if_pos rfl]
    · rw [e3, gU_same, upd_at, if_neg (by decide), hj 5 (by decide), ep _ (by omega) (by omega), hlo 3 (by omega)]; exact hC.2.2.2.2.2.1
    · rw [e3, gU_same, upd_at, if_pos rfl, hj 6 (by decide)]; unfold prac; rw [upd_at, if_pos rfl, hC.2.2.2.2.2.2]
  · intro f i hi ih M2 hR2 h4 hj hF2
    have hm := hP.2.2.2.2.2 _ (getD_mem hi)
    have hN := hO.2.1.2
    refine br_f (by rw [hF2 14 0 (by omega), hP.1]; exact nI_ge hi (by omega)) ⟨pk_in i 10 (by omega), ?_⟩
    rw [nI_clamp (by omega), hF2 15 0 (by omega), (hP.2.2.1 i hi).1]
    have hL2 := hL.fr hF2 hN (by omega) (fun w _ => ⟨by omega, by omega, by omega⟩)
    refine s_at hL2 hN hO.2.1.1 (fun z => ?_) (fun w hw e => ⟨fun z => (by cases z), fun o ho => ?_⟩)
    · rcases z with z | z
      · exact absurd z (nI_pos (by omega))
      · exact absurd z (nI_ge hm (by omega))
    · cases ho
      obtain rfl : ws.getD i 0 = w := (nI_eq (by omega) (by omega)).mp e
      refine ⟨?_, ?_⟩
      · show 20 * k + ws.getD i 0 < 141
        omega
      · have ho := hO.2.2.1 _ hm
        refine s_addTriesOf hR2 (hL2.2 _ hm).lw ho.2.2.1 (fun j hj => (ho.2.2.2 j hj).2) (fun M3 hR3 hF3 M4 e4 => ?_)
        rw [nI_add1]
        have hF4 : Fr (fun f k' => f = 1 ∧ k' = k) M3 M4 := Fr.rf.st e4 ⟨rfl, rfl⟩
        refine ih M4 ?_ ?_ (fun j hj' => ?_) ((hF2.tr (hF3.mono (fun f k z => ⟨Or.inr z.1, z.2⟩))).tr (hF4.mono (fun f k z => ⟨Or.inl z.1, z.2⟩)))
        · rw [take_succ_getD hi]
          unfold wrS
          rw [List.foldl_append, List.foldl_cons, List.foldl_nil]
          exact hR3.fr hF4 (by omega) (by omega)
        · rw [e4, gU_same, upd_at, if_pos rfl, hF3 1 k (by omega), h4, Int32.add_assoc, nI_add1]
        · rw [e4, gU_same, upd_at, if_neg hj', hF3 1 k (by omega)]; exact hj j hj'
end CH
