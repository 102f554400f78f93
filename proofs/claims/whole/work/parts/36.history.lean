/-! ===== LAYER 2: the class's history ===== -/
def HR (M : gW) (h : Nat) (Hs : Nat → gR) : Prop := M 10 0 1 = nI h ∧ h ≤ 4 ∧ ∃ π : Nat → Nat, (∀ i, i < 4 → M 11 0 i = nI (π i) ∧ 3 ≤ π i ∧ π i < 7) ∧ (∀ i j, i < 4 → j < 4 → π i = π j → i = j) ∧ ∀ i, i < h → CR M (π i) (Hs i) ∧ Ok (Hs i)
def hiF : Nat → Nat → Prop := fun f k => f = 10 ∨ f = 11 ∨ ∃ j, 3 ≤ j ∧ j < 7 ∧ own j f k
theorem hiF_low {j f k : Nat} (hj : j < 3) (h : own j f k) : ¬ hiF f k := by
  rintro (z | z | ⟨i, h1, h2, h3⟩)
  · unfold own at h; omega
  · unfold own at h; omega
  · exact own_ne (i := j) (j := i) (by omega) f k h h3
theorem HR.fr {P : Nat → Nat → Prop} {M M' : gW} {h : Nat} {Hs : Nat → gR} (hH : HR M h Hs) (hF : Fr P M M') (hP : ∀ f k, hiF f k → ¬ P f k) : HR M' h Hs := by
  obtain ⟨h1, h2, π, h3, h4, h5⟩ := hH
  refine ⟨by rw [hF 10 0 (hP _ _ (Or.inl rfl))]; exact h1, h2, π, fun i hi => by rw [hF 11 0 (hP _ _ (Or.inr (Or.inl rfl)))]; exact h3 i hi, h4, fun i hi => ⟨(h5 i hi).1.fr hF (h5 i hi).2.2.1.2 (fun f k z => hP f k (Or.inr (Or.inr ⟨π i, (h3 i (by omega)).2.1, (h3 i (by omega)).2.2, z⟩))), (h5 i hi).2⟩⟩
section HI
variable {M M' : gW} {h : Nat} {Hs : Nat → gR} {S : gR}
/-- the state is put into the place behind the h states -/
theorem s_push {K : gW → Prop} (hH : HR M h Hs) (h4 : h < 4) (hC : CR M 0 S) (hO : Ok S) (hk : ∀ M', HR M' (h + 1) (fun i => if i = h then S else Hs i) → Fr hiF M M' → K M') : (vp_in (M 10 0 1) 4) ∧ (((M 11 0 (M 10 0 1).toNatClampNeg).toNatClampNeg < 7) ∧ (wX4_copyFrom M ((M 11 0 (M 10 0 1).toNatClampNeg).toNatClampNeg) 0 (fun M4 => (∀ M5 : gW, M5 = gU M4 10 0 (upd (M4 10 0) 1 ((M4 10 0 1) + (1 : Int32))) → (K M5))))) := by
  obtain ⟨h1, h2, π, h3, hinj, h5⟩ := hH
  have hp := h3 h h4
  have e1 : (M 10 0 1).toNatClampNeg = h := by rw [h1]; exact nI_clamp (by omega)
  have e2 : (M 11 0 h).toNatClampNeg = π h := by rw [hp.1]; exact nI_clamp (by omega)
  rw [e1, e2]
  refine ⟨by rw [h1]; exact pk_in h 4 h4, hp.2.2, s_copyS (by omega) hC hO.l (fun M1 hC1 hF1 M5 e5 => ?_)⟩
  have hF5 : Fr (fun f _ => f = 10) M1 M5 := Fr.rf.st e5 rfl
  have n10 : ∀ j f k, own j f k → ¬ f = 10 := fun j f k z => by unfold own at z; omega
  refine hk M5 ⟨?_, by omega, π, fun i hi => ?_, hinj, fun i hi => ?_⟩ ((hF1.mono (fun f k z => Or.inr (Or.inr ⟨π h, hp.2.1, hp.2.2, z⟩))).tr (hF5.mono (fun f k z => Or.inl z)))
  · rw [e5, gU_same, upd_at, if_pos rfl, hF1 10 0 (by unfold own; omega), h1, nI_add1]
  · rw [hF5 11 0 (by omega), hF1 11 0 (by unfold own; omega)]; exact h3 i hi
  · dsimp only
    by_cases hih : i = h
    · subst hih
      rw [if_pos rfl]
      exact ⟨hC1.fr hF5 hO.2.1.2 (n10 _), hO⟩
    · rw [if_neg hih]
      have hq := h5 i (by omega)
      exact ⟨(hq.1.other hF1 hq.2.2.1.2 (fun z => hih (hinj i h (by omega) h4 z))).fr hF5 hq.2.2.1.2 (n10 _), hq.2⟩
theorem s_dropOldest {K : gW → Prop} (hH : HR M 4 Hs) (hk : ∀ M', HR M' 3 (fun i => Hs (i + 1)) → Fr (fun f _ => f = 10 ∨ f = 11) M M' → K M') : wX0_dropOldest M K := by
  obtain ⟨h1, h2, π, h3, hinj, h5⟩ := hH
  have h0 := h3 0 (by omega)
  refine ⟨pk_in 0 4 (by omega), ?_⟩
  rw [show (0 : Int32).toNatClampNeg = 0 from rfl, h0.1, nI_clamp (by omega)]
  refine ⟨h0.2.2, _, p_loop0 (fun f i => ∀ M2, (∀ j, j < 4 → M2 11 0 j = nI (if j < i then π (j + 1) else π j)) → Fr (fun f _ => f = 11) M M2 → wX0_dropOldest_L9 (fun M12 x2_13 => ((vp_in (3 : Int32) 4) ∧ (∀ M15 : gW, M15 = gU M12 11 0 (upd (M12 11 0) (3 : Int32).toNatClampNeg (nI (π 0))) → (∀ M17 : gW, M17 = gU M15 10 0 (upd (M15 10 0) 1 ((M15 10 0 1) - (1 : Int32))) → (K M17))))) f M2 (nI (i + 1))) 3 ?_ ?_ M (fun j hj => by rw [if_neg (by omega)]; exact (h3 j hj).1) Fr.rf⟩
  · intro f M2 hj2 hF2
    refine br_t (nI_le (a := 4) (b := 4) (by omega) (by omega)) ⟨pk_in 3 4 (by omega), fun M15 e15 M17 e17 => ?_⟩
    rw [show (3 : Int32).toNatClampNeg = 3 from rfl] at e15
    have hFa : Fr (fun f _ => f = 10 ∨ f = 11) M M17 := ((hF2.mono (fun f k z => Or.inr z)).st e15 (Or.inr rfl)).st e17 (Or.inl rfl)
    refine hk M17 ⟨?_, by omega, fun i => if i = 3 then π 0 else π (i + 1), fun i hi => ?_, fun i j hi hj e => ?_, fun i hi => ?_⟩ hFa
    · rw [e17, gU_same, upd_at, if_pos rfl, e15, gU_o (by decide), hF2 10 0 (by omega), h1]; rfl
    · rw [e17, gU_o (by decide), e15, gU_same, upd_at]
      dsimp only
      by_cases hi3 : i = 3
      · rw [if_pos hi3, if_pos hi3]; exact ⟨rfl, h0.2⟩
      · rw [if_neg hi3, if_neg hi3, hj2 i hi, if_pos (by omega)]; exact ⟨rfl, (h3 (i + 1) (by omega)).2⟩
    · dsimp only at e
      by_cases hi3 : i = 3
      · by_cases hj3 : j = 3
        · omega
        · rw [if_pos hi3, if_neg hj3] at e; have := hinj 0 (j + 1) (by omega) (by omega) e; omega
      · by_cases hj3 : j = 3
        · rw [if_neg hi3, if_pos hj3] at e; have := hinj (i + 1) 0 (by omega) (by omega) e; omega
        · rw [if_neg hi3, if_neg hj3] at e; have := hinj (i + 1) (j + 1) (by omega) (by omega) e; omega
    · dsimp only
      rw [if_neg (show ¬ i = 3 by omega)]
      have hq := h5 (i + 1) (by omega)
      exact ⟨hq.1.fr hFa hq.2.2.1.2 (fun f k z => by unfold own at z; omega), hq.2⟩
  · intro f i hi ih M2 hj2 hF2
    have hq := h3 (i + 1) (by omega)
    have hv := hj2 (i + 1) (by omega)
    rw [if_neg (by omega)] at hv
    have e1 : nI (i + 1) - (1 : Int32) = nI i := pk_sub (a := i + 1) (b := 1) (by omega)
    refine br_f (nI_ge (a := i + 1) (b := 4) (by omega) (by omega)) ⟨pk_in (i + 1) 4 (by omega), ?_⟩
    rw [nI_clamp (by omega), hv, nI_clamp (by omega), e1]
    refine ⟨hq.2.2, pk_in i 4 (by omega), fun M10 e10 => ?_⟩
    rw [nI_clamp (by omega)] at e10
    rw [nI_add1]
    refine ih M10 (fun j hj => ?_) (hF2.st e10 rfl)
    rw [e10, gU_same, upd_at]
    by_cases hji : j = i
    · rw [if_pos hji, if_pos (by omega), hji]
    · rw [if_neg hji, hj2 j hj]
      by_cases hlt : j < i
      · rw [if_pos hlt, if_pos (by omega)]
      · rw [if_neg hlt, if_neg (by omega)]
def pushN (h : Nat) : Nat := if h = 4 then 4 else h + 1
def pushH (h : Nat) (Hs : Nat → gR) (S : gR) : Nat → gR := fun i => if h = 4 then (if i = 3 then S else Hs (i + 1)) else (if i = h then S else Hs i)
theorem s_remember {K : gW → Prop} (hH : HR M h Hs) (hC : CR M 0 S) (hO : Ok S) (hk : ∀ M', HR M' (pushN h) (pushH h Hs S) → Fr hiF M M' → K M') : wX0_remember M 0 K := by
  unfold wX0_remember
  have h4 := hH.2.1
  refine ⟨fun z => ?_, fun z => ?_⟩
  · have hlt : h < 4 := by
      rw [hH.1] at z; exact (nI_ltI (b := 4) (by omega) (by omega)).mp z
    refine s_push hH hlt hC hO (fun M' hH' hF' => hk M' ?_ hF')
    have e1 : pushN h = h + 1 := by unfold pushN; rw [if_neg (by omega)]
    have e2 : pushH h Hs S = (fun i => if i = h then S else Hs i) := by funext i; unfold pushH; rw [if_neg (by omega)]
    rw [e1, e2]; exact hH'
  · have h44 : h = 4 := by
      rw [hH.1] at z
      rcases Nat.lt_or_ge h 4 with y | y
      · exact absurd ((nI_ltI (b := 4) (by omega) (by omega)).mpr y) z
      · omega
    subst h44
    refine s_dropOldest hH (fun M1 hH1 hF1 => ?_)
    refine s_push hH1 (by omega) (hC.fr hF1 hO.2.1.2 (fun f k y => by unfold own at y; omega)) hO (fun M' hH' hF' => hk M' ?_ ((hF1.mono (fun f k y => by unfold hiF; omega)).tr hF'))
    have e2 : pushH 4 Hs S = (fun i => if i = 3 then S else Hs (i + 1)) := by funext i; unfold pushH; rw [if_pos rfl]
    rw [e2]; exact hH'
theorem s_takeBack {K : Int32 → gW → Prop} (hH : HR M h Hs) (h0 : h = 0 → K 0 M) (h1 : ∀ M', 0 < h → CR M' 0 (Hs (h - 1)) → HR M' (h - 1) Hs → Fr (fun f k => f = 10 ∨ own 0 f k) M M' → K 1 M') : wX0_takeBack M 0 K := by
  have hH0 := hH
  obtain ⟨e1, h2, π, h3, hinj, h5⟩ := hH
  unfold wX0_takeBack
  rw [e1]
  refine pk_eq h 0 h0 (fun z => ?_)
  intro M2 e2
  have es : nI h - (1 : Int32) = nI (h - 1) := pk_sub (b := 1) (by omega)
  rw [es] at e2
  have hF2 : Fr (fun f _ => f = 10) M M2 := Fr.rf.st e2 rfl
  have v : M2 10 0 1 = nI (h - 1) := by rw [e2, gU_same, upd_at, if_pos rfl]
  have hp := h3 (h - 1) (by omega)
  have hq := h5 (h - 1) (by omega)
  have n10 : ∀ j f k, own j f k → ¬ f = 10 := fun j f k z => by unfold own at z; omega
  rw [v, nI_clamp (by omega), hF2 11 0 (by omega), hp.1, nI_clamp (by omega)]
  refine ⟨pk_in (h - 1) 4 (by omega), hp.2.2, s_copyS (by omega) (hq.1.fr hF2 hq.2.2.1.2 (n10 _)) hq.2.l (fun M6 hC6 hF6 => ?_)⟩
  refine h1 M6 (by omega) hC6 ⟨?_, by omega, π, fun i hi => ?_, hinj, fun i hi => ?_⟩ ((hF2.mono (fun f k z => Or.inl z)).tr (hF6.mono (fun f k z => Or.inr z)))
  · rw [hF6 10 0 (by unfold own; omega)]; exact v
  · rw [hF6 11 0 (by unfold own; omega), hF2 11 0 (by omega)]; exact h3 i hi
  · have hr := h5 i (by omega)
    exact ⟨(hr.1.fr hF2 hr.2.2.1.2 (n10 _)).other hF6 hr.2.2.1.2 (by have := (h3 i (by omega)).2.1; omega), hr.2⟩
end HI
