/-! ===== LAYER 2: what stays well formed ===== -/
def bp (x : Nat) : Nat := if x < 9999 then x + 1 else x
theorem bp_le {x : Nat} (h : x ≤ 9999) : bp x ≤ 9999 := by unfold bp; split <;> omega
theorem le_bp (x : Nat) : x ≤ bp x := by unfold bp; split <;> omega
theorem bp_mono {s t : Nat} (h : s ≤ t) (ht : t ≤ 9999) : bp s ≤ bp t := by unfold bp; split <;> split <;> omega
theorem bp_gt {s t : Nat} (h : s ≤ t) (ht : t ≤ 9999) : s < bp t ∨ bp t = 9999 := by unfold bp; split <;> omega
theorem inc_nI {t : Nat} (h : t ≤ 9999) : inc (nI t) = nI (bp t) := by
  unfold inc bp
  by_cases z : t < 9999
  · rw [if_pos z, if_neg (show ¬ (9999 : Int32) ≤ nI t from nI_ge (a := t) (b := 9999) z (by omega)), nI_add1]
  · rw [if_neg z, if_pos (show (9999 : Int32) ≤ nI t from nI_le (a := 9999) (b := t) (by omega) (by omega))]
section OK
variable {S T : gR}
/-- tries and slips as numbers -/
def TS (S : gR) (p t s : Nat) : Prop := S (6 + p) = nI t ∧ S (708 + p) = nI s
theorem OkP.ts (h : OkP S) {p : Nat} (hp : p < 702) : TS S p (sT S p) (sS S p) := ⟨(h p hp).1, (h p hp).2.1⟩
theorem TS.okP (h : ∀ p, p < 702 → ∃ t s, TS S p t s ∧ s ≤ t ∧ t ≤ 9999) : OkP S := by
  intro p hp
  obtain ⟨t, s, ⟨h1, h2⟩, h3, h4⟩ := h p hp
  have e1 : sT S p = t := by unfold sT; rw [h1]; exact nI_clamp (by omega)
  have e2 : sS S p = s := by unfold sS; rw [h2]; exact nI_clamp (by omega)
  rw [e1, e2]; exact ⟨h1, h2, h3, h4⟩
theorem TS.tr {p t s q : Nat} (h : TS S p t s) (ht : t ≤ 9999) (hp : p < 702) (hq : q < 702) : TS (aT S q) p (if p = q then bp t else t) s := by
  refine ⟨?_, ?_⟩
  · unfold aT; rw [upd_at]
    by_cases e : p = q
    · subst e; rw [if_pos rfl, if_pos rfl, h.1, inc_nI ht]
    · rw [if_neg (by omega), if_neg e]; exact h.1
  · unfold aT; rw [upd_at, if_neg (by omega)]; exact h.2
theorem TS.sl {p t s q : Nat} (h : TS S p t s) (hs : s ≤ 9999) (hp : p < 702) (hq : q < 702) : TS (aS S q) p t (if p = q then bp s else s) := by
  refine ⟨?_, ?_⟩
  · unfold aS; rw [upd_at, if_neg (by omega)]; exact h.1
  · unfold aS; rw [upd_at]
    by_cases e : p = q
    · subst e; rw [if_pos rfl, if_pos rfl, h.2, inc_nI hs]
    · rw [if_neg (by omega), if_neg e]; exact h.2
theorem aT_ok {q : Nat} (h : OkP S) (hq : q < 702) : OkP (aT S q) := TS.okP fun p hp => by
  obtain ⟨h1, h2, h3, h4⟩ := h p hp
  have := bp_le h4
  have := le_bp (sT S p)
  refine ⟨_, _, (h.ts hp).tr h4 hp hq, ?_, ?_⟩ <;> split <;> omega
theorem aTs_ok : ∀ (l : List Nat) (S : gR), (∀ p ∈ l, p < 702) → OkP S → OkP (l.foldl aT S)
  | [], _, _, h => h
  | p :: l, S, hl, h => by
    rw [List.foldl_cons]
    exact aTs_ok l _ (fun x hx => hl x (List.mem_cons_of_mem _ hx)) (aT_ok h (hl p List.mem_cons_self))
/-- a letter, its join with the last, and marks -/
theorem blk_ok {l : Nat} {last : Option Nat} {jm m : Bool} (h : OkP S) (hl : l < 26) (hla : ∀ a, last = some a → a < 26) : OkP (if m = true then aS (letS S last jm l) l else letS S last jm l) := TS.okP fun p hp => by
  obtain ⟨h1, h2, h3, h4⟩ := h p hp
  have a1 := (h.ts hp).tr h4 hp (show l < 702 by omega)
  have c1 := bp_le h4
  have c2 := le_bp (sT S p)
  have c3 := bp_gt h3 h4
  have c4 := bp_mono h3 h4
  have c5 := bp_le (Nat.le_trans h3 h4)
  have key : ∃ t s, TS (letS S last jm l) p t s ∧ s ≤ t ∧ t ≤ 9999 ∧ (p = l → s < t ∨ t = 9999) := by
    cases last with
    | none => exact ⟨_, _, a1, by split <;> omega, by split <;> omega, fun e => by rw [if_pos e]; omega⟩
    | some a =>
      have ha := hla a rfl
      have hj := jn_lt ha hl
      have hne : ¬ l = jn a l := by unfold jn; omega
      have b1 := a1.tr (q := jn a l) (by split <;> omega) hp hj
      by_cases epl : p = l
      · have epj : ¬ p = jn a l := fun z => hne (epl.symm.trans z)
        rw [if_neg epj, if_pos epl] at b1
        cases jm with
        | false => exact ⟨_, _, b1, by omega, by omega, fun _ => by omega⟩
        | true =>
          have b2 := b1.sl (q := jn a l) (by omega) hp hj
          rw [if_neg epj] at b2
          exact ⟨_, _, b2, by omega, by omega, fun _ => by omega⟩
      · rw [if_neg epl] at b1
        cases jm with
        | false => exact ⟨_, _, b1, by split <;> omega, by split <;> omega, fun e => absurd e epl⟩
        | true =>
          have b2 := b1.sl (q := jn a l) (by omega) hp hj
          refine ⟨_, _, b2, ?_, by split <;> omega, fun e => absurd e epl⟩
          by_cases epj : p = jn a l
          · rw [if_pos epj, if_pos epj]; exact c4
          · rw [if_neg epj, if_neg epj]; exact h3
  obtain ⟨t, s, k1, k2, k3, k4⟩ := key
  by_cases hm : m = true
  · rw [if_pos hm]
    refine ⟨_, _, k1.sl (by omega) hp (by omega), ?_, k3⟩
    by_cases e : p = l
    · rw [if_pos e]
      have := k4 e
      have := bp_le (x := s) (by omega)
      unfold bp at *
      split <;> omega
    · rw [if_neg e]; exact k2
  · rw [if_neg hm]; exact ⟨t, s, k1, k2, k3⟩
theorem eff_ok : ∀ (bs : List (Nat × Bool × Bool)) (last : Option Nat) (jm : Bool) (S : gR), (∀ b ∈ bs, b.1 < 26) → (∀ a, last = some a → a < 26) → OkP S → OkP (eff bs last jm S)
  | [], _, _, _, _, _, h => h
  | b :: bs, last, jm, S, hb, hla, h => by
    simp only [eff]
    have hb1 := hb b List.mem_cons_self
    exact eff_ok bs _ _ _ (fun x hx => hb x (List.mem_cons_of_mem _ hx)) (fun a z => by cases z; exact hb1) (blk_ok h hb1 hla)
theorem aS_other {i : Nat} (h : i < 708 ∨ 1410 ≤ i) {p : Nat} (hp : p < 702) : aS S p i = S i := by
  unfold aS; rw [upd_at, if_neg (by omega)]
theorem blk_other {l : Nat} {last : Option Nat} {jm m : Bool} (hl : l < 26) (hla : ∀ a, last = some a → a < 26) {i : Nat} (hi : i < 6 ∨ 1410 ≤ i) : (if m = true then aS (letS S last jm l) l else letS S last jm l) i = S i := by
  have key : letS S last jm l i = S i := by
    cases last with
    | none => exact aT_other (by omega) (by omega)
    | some a =>
      have hj := jn_lt (hla a rfl) hl
      cases jm with
      | false => exact (aT_other (by omega) hj).trans (aT_other (by omega) (by omega))
      | true => exact (aS_other (by omega) hj).trans ((aT_other (by omega) hj).trans (aT_other (by omega) (by omega)))
  by_cases hm : m = true
  · rw [if_pos hm, aS_other (by omega) (by omega), key]
  · rw [if_neg hm, key]
theorem eff_other {i : Nat} (hi : i < 6 ∨ 1410 ≤ i) : ∀ (bs : List (Nat × Bool × Bool)) (last : Option Nat) (jm : Bool) (S : gR), (∀ b ∈ bs, b.1 < 26) → (∀ a, last = some a → a < 26) → eff bs last jm S i = S i
  | [], _, _, _, _, _ => rfl
  | b :: bs, last, jm, S, hb, hla => by
    simp only [eff]
    have hb1 := hb b List.mem_cons_self
    rw [eff_other hi bs _ _ _ (fun x hx => hb x (List.mem_cons_of_mem _ hx)) (fun a z => by cases z; exact hb1), blk_other hb1 hla hi]
/-- well formed: the practice of T, the words of S -/
theorem OkL.cg (h : OkL S) (e5 : T 5 = S 5) (e : ∀ i, 1410 ≤ i → T i = S i) : OkL T := by
  have eN : sN T = sN S := by unfold sN; rw [e5]
  refine ⟨by rw [eN, e5]; exact h.1, fun w hw => ?_⟩
  have eL : sL T w = sL S w := by unfold sL; rw [e _ (by omega)]
  have eC : ∀ j, sC T w j = sC S w j := fun j => by unfold sC; rw [e _ (by omega)]
  have ho := h.2 w (by omega)
  refine ⟨by rw [eL, e _ (by omega)]; exact ho.1, by rw [eL]; exact ho.2.1, by rw [eL]; exact ho.2.2.1, fun j hj => ?_⟩
  rw [eL] at hj
  rw [eC, e _ (by omega)]; exact ho.2.2.2 j hj
theorem OkP.cg (h : OkP S) (e : ∀ i, 6 ≤ i → i < 1410 → T i = S i) : OkP T := TS.okP fun p hp => by
  have := h p hp
  refine ⟨_, _, ⟨by rw [e _ (by omega) (by omega)]; exact this.1, by rw [e _ (by omega) (by omega)]; exact this.2.1⟩, this.2.2.1, this.2.2.2⟩
theorem Ok.mk' (h1 : OkP S) (h2 : OkL S) {u v : Nat} (h3 : S 0 = nI u) (hu : u ≤ 99) (h4 : S 1 = nI v) (hv : v ≤ 999) : Ok S := ⟨h1, h2.1, h2.2, ⟨u, h3, hu⟩, ⟨v, h4, hv⟩⟩
theorem prac_ok {ws : List Nat} (hO : Ok S) (hw : ∀ w ∈ ws, w < sN S) : Ok (prac S ws) := by
  obtain ⟨u, hu, hu9⟩ := hO.2.2.2.1
  obtain ⟨v, hv, hv9⟩ := hO.2.2.2.2
  have ep : ∀ i, i ≠ 2 → i ≠ 4 → prac S ws i = wrS S ws i := fun i h2 h4 => by unfold prac; rw [upd_at, if_neg h4, upd_at, if_neg h2]
  have eo : ∀ i, i < 6 ∨ 708 ≤ i → wrS S ws i = S i := fun i hi => wrS_other hi hO.2.2.1 ws S hw
  have key : ∀ (ws : List Nat) (T : gR), (∀ w ∈ ws, w < sN S) → OkP T → OkP (ws.foldl (fun T w => (seqW (sC S w) (sL S w)).foldl aT T) T) := by
    intro ws
    induction ws with
    | nil => intro T _ h; exact h
    | cons w ws ih =>
      intro T hw h
      rw [List.foldl_cons]
      exact ih _ (fun x hx => hw x (List.mem_cons_of_mem _ hx)) (aTs_ok _ _ (seqW_lt _ (fun i hi => ((hO.2.2.1 w (hw w List.mem_cons_self)).2.2.2 i hi).2)) h)
  refine Ok.mk' ((key ws S hw hO.1).cg (fun i h6 h14 => ep i (by omega) (by omega))) (hO.l.cg (by rw [ep _ (by omega) (by omega), eo _ (by omega)]) (fun i hi => by rw [ep _ (by omega) (by omega), eo _ (by omega)])) (u := u) (v := v) ?_ hu9 ?_ hv9
  · rw [ep _ (by omega) (by omega), eo _ (by omega)]; exact hu
  · rw [ep _ (by omega) (by omega), eo _ (by omega)]; exact hv
theorem bsF_lt {t : Nat → Int32} {n : Nat} : ∀ f d i b l, i + d = n → fltT t d i b l = none → (0 < d → isL (t i) = true) → ∀ x ∈ bsF t n f i, x.1 < 26 := by
  intro f
  induction f with
  | zero => intro d i b l _ _ _ x hx; cases hx
  | succ f ih =>
    intro d i b l hi hf hx
    cases d with
    | zero =>
      have e : bsF t n (f + 1) i = [] := by show (if n ≤ i then [] else _) = _; rw [if_pos (by omega)]
      rw [e]; intro x hx; cases hx
    | succ d =>
      have hxi := hx (by omega)
      obtain ⟨h15, hf1⟩ := st_letter hf hxi
      have e : bsF t n (f + 1) i = (lt t i, bM t n i, bJ t n i) :: bsF t n f (bE t n i) := by show (if n ≤ i then [] else _) = _; rw [if_neg (by omega)]
      rw [e]
      have fin : ∀ d2 i2 b2', bI t n i = i2 → i2 + d2 = n → fltT t d2 i2 b2' (l + 1) = none → (0 < d2 → ¬ t i2 = 33) → ∀ x ∈ bsF t n f (bE t n i), x.1 < 26 := by
        intro d2 i2 b2' hI hi2 hf2 h33
        by_cases hj : i2 < n ∧ t i2 = 45
        · have eJ : bJ t n i = true := by unfold bJ; rw [hI]; exact decide_eq_true hj
          have eE : bE t n i = i2 + 1 := by unfold bE; rw [if_pos eJ, hI]
          rw [eE]
          cases d2 with
          | zero => exact absurd hj.1 (by omega)
          | succ d2 =>
            have hf3 := st_dash hf2 hj.2
            refine ih d2 (i2 + 1) 45 (l + 1) (by omega) hf3 (fun hp => ?_)
            obtain ⟨d3, rfl⟩ : ∃ d3, d2 = d3 + 1 := ⟨d2 - 1, by omega⟩
            exact st_45 hf3
        · have eJ : bJ t n i = false := by unfold bJ; rw [hI]; exact decide_eq_false hj
          have eE : bE t n i = i2 := by unfold bE; rw [if_neg (by rw [eJ]; decide), hI]
          rw [eE]
          refine ih d2 i2 b2' (l + 1) (by omega) hf2 (fun hp => ?_)
          obtain ⟨d3, rfl⟩ : ∃ d3, d2 = d3 + 1 := ⟨d2 - 1, by omega⟩
          exact st_else hf2 (h33 (by omega)) (fun z => hj ⟨by omega, z⟩)
      intro x hxm
      rcases List.mem_cons.mp hxm with y | y
      · rw [y]; exact (lt_of hxi).1
      · by_cases hm : i + 1 < n ∧ t (i + 1) = 33
        · have eI : bI t n i = i + 2 := by unfold bI bM; rw [if_pos (decide_eq_true hm)]
          cases d with
          | zero => exact absurd hm.1 (by omega)
          | succ d =>
            have hf2 := (st_mark hf1 hm.2).2
            refine fin d (i + 2) 33 eI (by omega) hf2 (fun hp z => ?_) x y
            obtain ⟨d3, rfl⟩ : ∃ d3, d = d3 + 1 := ⟨d - 1, by omega⟩
            have := (st_mark hf2 z).1; rw [isL_33] at this; cases this
        · have eI : bI t n i = i + 1 := by unfold bI bM; rw [if_neg (by rw [decide_eq_false hm]; decide)]
          exact fin d (i + 1) (t i) eI (by omega) hf1 (fun hp z => hm ⟨by omega, z⟩) x y
def wrtS (S : gR) (bs : List (Nat × Bool × Bool)) : gR := upd (upd (eff bs none false S) 2 (S 2 + 1)) 3 (S 3 + nI (slp bs))
theorem wrt_ok {bs : List (Nat × Bool × Bool)} (hO : Ok S) (hb : ∀ b ∈ bs, b.1 < 26) : Ok (wrtS S bs) := by
  obtain ⟨u, hu, hu9⟩ := hO.2.2.2.1
  obtain ⟨v, hv, hv9⟩ := hO.2.2.2.2
  have ep : ∀ i, i ≠ 2 → i ≠ 3 → wrtS S bs i = eff bs none false S i := fun i h2 h4 => by unfold wrtS; rw [upd_at, if_neg h4, upd_at, if_neg h2]
  have eo : ∀ i, i < 6 ∨ 1410 ≤ i → eff bs none false S i = S i := fun i hi => eff_other hi bs none false S hb (fun a z => by cases z)
  refine Ok.mk' ((eff_ok bs none false S hb (fun a z => by cases z) hO.1).cg (fun i h6 h14 => ep i (by omega) (by omega))) (hO.l.cg (by rw [ep _ (by omega) (by omega), eo _ (by omega)]) (fun i hi => by rw [ep _ (by omega) (by omega), eo _ (by omega)])) (u := u) (v := v) ?_ hu9 ?_ hv9
  · rw [ep _ (by omega) (by omega), eo _ (by omega)]; exact hu
  · rw [ep _ (by omega) (by omega), eo _ (by omega)]; exact hv
/-! weeks -/
def fadS (S : gR) (a : Int32) : gR := upd (fdP S a) 1 (S 1 + a)
theorem shr_k {t k : Nat} (ht : t < 2 ^ 31) (hk : k ≤ 20) : nI t >>> (nI k &&& 31) = nI (t / 2 ^ k) := by
  refine pk_shrN ht _ k ?_
  have : ∀ i, i < 21 → ((nI i &&& 31).toBitVec.smod 32).toNat = i := by decide
  exact this k (by omega)
theorem fad_ok {a : Int32} {k : Nat} (hO : Ok S) (ha : a = nI k) (hk : k ≤ 20) {v : Nat} (hv : S 1 + a = nI v) (hv9 : v ≤ 999) : Ok (fadS S a) := by
  obtain ⟨u, hu, hu9⟩ := hO.2.2.2.1
  have ep : ∀ i, i ≠ 1 → fadS S a i = fdP S a i := fun i h => by unfold fadS; rw [upd_at, if_neg h]
  have eo : ∀ i, i < 6 ∨ 1410 ≤ i → fdP S a i = S i := fun i hi => by unfold fdP; rw [if_neg (by omega)]
  have hP : OkP (fadS S a) := TS.okP fun p hp => by
    obtain ⟨h1, h2, h3, h4⟩ := hO.1 p hp
    have d1 : sS S p / 2 ^ k ≤ sT S p / 2 ^ k := Nat.div_le_div_right h3
    have d2 : sT S p / 2 ^ k ≤ sT S p := Nat.div_le_self _ _
    refine ⟨sT S p / 2 ^ k, sS S p / 2 ^ k, ⟨?_, ?_⟩, d1, by omega⟩
    · rw [ep _ (by omega)]; unfold fdP; rw [if_pos (by omega), h1, ha, shr_k (by omega) hk]
    · rw [ep _ (by omega)]; unfold fdP; rw [if_pos (by omega), h2, ha, shr_k (by omega) hk]
  refine Ok.mk' hP (hO.l.cg (by rw [ep _ (by omega), eo _ (by omega)]) (fun i hi => by rw [ep _ (by omega), eo _ (by omega)])) (u := u) (v := v) ?_ hu9 ?_ hv9
  · rw [ep _ (by omega), eo _ (by omega)]; exact hu
  · unfold fadS; rw [upd_at, if_pos rfl]; exact hv
theorem unt_ok {a : Int32} {k : Nat} (hO : Ok S) (ha : a = nI k) (hk : k ≤ 99) : Ok (upd S 0 a) := by
  obtain ⟨v, hv, hv9⟩ := hO.2.2.2.2
  have ep : ∀ i, i ≠ 0 → upd S 0 a i = S i := fun i h => by rw [upd_at, if_neg h]
  exact Ok.mk' (hO.1.cg (fun i h6 h14 => ep i (by omega))) (hO.l.cg (ep _ (by omega)) (fun i hi => ep i (by omega))) (by rw [upd_at, if_pos rfl]; exact ha) hk (by rw [ep _ (by omega)]; exact hv) hv9
/-- only the words differ -/
def wOnly (S T : gR) : Prop := ∀ i, i ≠ 5 → i < 1410 → T i = S i
theorem wOnly.ok (h : wOnly S T) (hO : Ok S) (hL : OkL T) : Ok T := by
  obtain ⟨u, hu, hu9⟩ := hO.2.2.2.1
  obtain ⟨v, hv, hv9⟩ := hO.2.2.2.2
  exact Ok.mk' (hO.1.cg (fun i h6 h14 => h i (by omega) h14)) hL (by rw [h 0 (by omega) (by omega)]; exact hu) hu9 (by rw [h 1 (by omega) (by omega)]; exact hv) hv9
theorem addW_only {c : Nat → Nat} {m : Nat} (h : addW S c m = some T) : wOnly S T := by
  unfold addW at h
  by_cases ho : onB S c m = true
  · rw [if_pos ho] at h; cases h; exact fun _ _ _ => rfl
  · rw [if_neg ho] at h
    by_cases h20 : sN S = 20
    · rw [if_pos h20] at h; cases h
    · rw [if_neg h20] at h; cases h
      intro i h5 h14
      unfold appW
      rw [if_neg h5, if_neg (by omega), if_neg (by omega)]
theorem goC_only {t : Nat → Int32} : ∀ d p fr (S T : gR), goC t d p fr S = some T → wOnly S T
  | 0, p, fr, S, T, h => addW_only h
  | d + 1, p, fr, S, T, h => by
    have e : goC t (d + 1) p fr S = (if t p = 44 then (match addW S (fun j => lt t (fr + j)) (p - fr) with | none => none | some S' => goC t d (p + 1) (p + 1) S') else goC t d (p + 1) fr S) := rfl
    rw [e] at h
    by_cases hc : t p = 44
    · rw [if_pos hc] at h
      cases ha : addW S (fun j => lt t (fr + j)) (p - fr) with
      | none => rw [ha] at h; cases h
      | some S1 =>
        rw [ha] at h
        have h1 := addW_only ha
        have h2 := goC_only d _ _ S1 T h
        exact fun i h5 h14 => (h2 i h5 h14).trans (h1 i h5 h14)
    · rw [if_neg hc] at h; exact goC_only d _ _ S T h
theorem rmW_only {w : Nat} : wOnly S (rmW S w) := fun i h5 h14 => by
  unfold rmW; rw [if_neg h5, if_neg (by omega)]
end OK
