/-! ===== LAYER 2: the class's calls: acts ===== -/
/-- the class holds: state S, snapshot (sn, Sn), history (h, Hs), text (t, n) -/
def XR (M : gW) (S : gR) (sn : Bool) (Sn : gR) (h : Nat) (Hs : Nat → gR) (t : Nat → Int32) (n : Nat) : Prop := CR M 0 S ∧ (M 0 0 7 = b2 sn ∧ (sn = true → CR M 1 Sn ∧ Ok Sn)) ∧ HR M h Hs ∧ TR M t n
def kpF : Nat → Nat → Prop := fun f k => f = 0 ∨ own 0 f k ∨ own 1 f k ∨ hiF f k ∨ f = 12 ∨ f = 13
section XP
variable {M M' : gW} {S Sn : gR} {sn : Bool} {h n : Nat} {Hs : Nat → gR} {t : Nat → Int32} {P : Nat → Nat → Prop}
theorem XR.fr (hX : XR M S sn Sn h Hs t n) (hO : Ok S) (hF : Fr P M M') (hP : ∀ f k, kpF f k → ¬ P f k) : XR M' S sn Sn h Hs t n := by
  obtain ⟨h1, ⟨h2, h3⟩, h4, h5⟩ := hX
  refine ⟨h1.fr hF hO.2.1.2 (fun f k z => hP f k (Or.inr (Or.inl z))), ⟨by rw [hF 0 0 (hP _ _ (Or.inl rfl))]; exact h2, fun e => ⟨(h3 e).1.fr hF (h3 e).2.2.1.2 (fun f k z => hP f k (Or.inr (Or.inr (Or.inl z)))), (h3 e).2⟩⟩, h4.fr hF (fun f k z => hP f k (Or.inr (Or.inr (Or.inr (Or.inl z))))), h5.fr hF (hP _ _ (by unfold kpF; simp)) (hP _ _ (by unfold kpF; simp))⟩
theorem kp_pl : ∀ f k, kpF f k → ¬ plF f k := by
  rintro f k (z | z | z | (z | z | ⟨j, h1, h2, z⟩) | z | z) <;> unfold plF <;> (try unfold own at z) <;> omega
theorem kp_2 : ∀ f k, kpF f k → ¬ own 2 f k := by
  rintro f k (z | z | z | (z | z | ⟨j, h1, h2, z⟩) | z | z) <;> unfold own at * <;> omega
theorem kp_sp : ∀ f k, kpF f k → ¬ spF 2 f k := by
  rintro f k (z | z | z | (z | z | ⟨j, h1, h2, z⟩) | z | z) <;> unfold spF ownL <;> (try unfold own at z) <;> omega
theorem kp_20 : ∀ f k, kpF f k → ¬ f = 20 := by
  rintro f k (z | z | z | (z | z | ⟨j, h1, h2, z⟩) | z | z) <;> (try unfold own at z) <;> omega
/-- the history takes the state; then the state itself may change -/
theorem x_act {K : gW → Prop} (hX : XR M S sn Sn h Hs t n) (hO : Ok S) (hk : ∀ M1, XR M1 S sn Sn (pushN h) (pushH h Hs S) t n → Fr hiF M M1 → (∀ S' M2, CR M2 0 S' → Fr (own 0) M1 M2 → XR M2 S' sn Sn (pushN h) (pushH h Hs S) t n) → K M1) : wX0_remember M 0 K := by
  obtain ⟨h1, ⟨h2, h3⟩, h4, h5⟩ := hX
  refine s_remember h4 h1 hO (fun M1 hH1 hF1 => ?_)
  have hX1 : XR M1 S sn Sn (pushN h) (pushH h Hs S) t n := ⟨h1.fr hF1 hO.2.1.2 (fun f k z => hiF_low (by omega) z), ⟨by rw [hF1 0 0 (by rintro (z | z | ⟨j, h1, h2, z⟩) <;> (try unfold own at z) <;> omega)]; exact h2, fun e => ⟨(h3 e).1.fr hF1 (h3 e).2.2.1.2 (fun f k z => hiF_low (by omega) z), (h3 e).2⟩⟩, hH1, h5.fr hF1 (by rintro (z | z | ⟨j, h1, h2, z⟩) <;> (try unfold own at z) <;> omega) (by rintro (z | z | ⟨j, h1, h2, z⟩) <;> (try unfold own at z) <;> omega)⟩
  refine hk M1 hX1 hF1 (fun S' M2 hC2 hF2 => ?_)
  obtain ⟨g1, ⟨g2, g3⟩, g4, g5⟩ := hX1
  refine ⟨hC2, ⟨by rw [hF2 0 0 (by unfold own; omega)]; exact g2, fun e => ⟨(g3 e).1.other hF2 (g3 e).2.2.1.2 (by omega), (g3 e).2⟩⟩, g4.fr hF2 (fun f k z => ?_), g5.fr hF2 (by unfold own; omega) (by unfold own; omega)⟩
  rcases z with z | z | ⟨j, z1, z2, z⟩
  · unfold own; omega
  · unfold own; omega
  · exact own_ne (by omega) f k z
theorem x_write_bad {K : Int32 → gW → Prop} {f : Nat} (hX : XR M S sn Sn h Hs t n) (hf : fltT t n 0 45 0 = some f) (hk : K (-100 - nI f) M) : wX8_write M K := by
  refine s_faultAsWritten hX.2.2.2 ?_
  rw [hf]
  have hfn : f < 2 ^ 31 := by
    have key : ∀ d i b l, fltT t d i b l = some f → f ≤ i + d := by
      intro d
      induction d with
      | zero => intro i b l e; unfold fltT at e; split at e <;> cases e; omega
      | succ d ih =>
        intro i b l e; unfold fltT at e
        split at e
        · have := ih _ _ _ e; omega
        · cases e; omega
    have := key n 0 45 0 hf
    have := hX.2.2.2.2.1
    omega
  exact br_f (nI_ne_neg hfn (by decide)) hk
theorem x_write {K : Int32 → gW → Prop} (hX : XR M S sn Sn h Hs t n) (hO : Ok S) (hf : fltT t n 0 45 0 = none) (hk : ∀ M', XR M' (wrtS S (bsF t n (n + 1) 0)) sn Sn (pushN h) (pushH h Hs S) t n → K (nI (slp (bsF t n (n + 1) 0))) M') : wX8_write M K := by
  refine s_faultAsWritten hX.2.2.2 ?_
  rw [hf]
  refine br_t rfl (x_act hX hO (fun M1 hX1 hF1 hst => ?_))
  refine s_practiseIn hX1.2.2.2 hX1.1.1 hf (fun M2 hR2 hF2 M3 e3 M4 e4 => hk M4 (hst _ M4 ?_ ?_))
  · have hb : ∀ x ∈ bsF t n (n + 1) 0, x.1 < 26 := bsF_lt (n + 1) n 0 45 0 (by omega) hf (fun hp => by
      obtain ⟨d3, rfl⟩ : ∃ d3, n = d3 + 1 := ⟨n - 1, by omega⟩
      exact st_45 hf)
    generalize bsF t n (n + 1) 0 = bs at *
    have ep : ∀ i, i ≠ 2 → i ≠ 3 → wrtS S bs i = eff bs none false S i := fun i h2 h4 => by unfold wrtS; rw [upd_at, if_neg h4, upd_at, if_neg h2]
    have eo : ∀ i, i < 6 ∨ 1410 ≤ i → eff bs none false S i = S i := fun i hi => eff_other hi bs none false S hb (fun a z => by cases z)
    have hF4 : Fr (fun f k => f = 1 ∧ k = 0) M2 M4 := (Fr.rf.st e3 ⟨rfl, rfl⟩).st e4 ⟨rfl, rfl⟩
    have q1 : M2 1 0 = M1 1 0 := hF2 1 0 (by unfold prF; omega)
    obtain ⟨-, c2, c3, c4, c5, c6, c7⟩ := hX1.1
    have hR4 : PR M4 0 (wrtS S bs) := fun p hp => by
      rw [ep _ (by omega) (by omega), ep _ (by omega) (by omega)]; exact (hR2.fr hF4 (by omega) (by omega)) p hp
    have hL4 : LR M4 0 (wrtS S bs) := ((c2.fr hF2 hO.2.1.2 (by unfold prF; omega) (fun w _ => ⟨by unfold prF; omega, by unfold prF; omega, by unfold prF; omega⟩)).fr hF4 hO.2.1.2 (by omega) (fun w _ => ⟨by omega, by omega, by omega⟩)).cg (by rw [ep _ (by omega) (by omega), eo _ (by omega)]) (fun i hi => by rw [ep _ (by omega) (by omega), eo _ (by omega)])
    refine ⟨hR4, hL4, ?_, ?_, ?_, ?_, ?_⟩
    · rw [e4, gU_same, upd_at, if_neg (by decide), e3, gU_same, upd_at, if_neg (by decide), q1, ep _ (by omega) (by omega), eo _ (by omega)]; exact c3
    · rw [e4, gU_same, upd_at, if_neg (by decide), e3, gU_same, upd_at, if_neg (by decide), q1, ep _ (by omega) (by omega), eo _ (by omega)]; exact c4
    · rw [e4, gU_same, upd_at, if_neg (by decide), e3, gU_same, upd_at, if_pos rfl, q1, c5]; unfold wrtS; rw [upd_at, if_neg (by decide), upd_at, if_pos rfl]
    · rw [e4, gU_same, upd_at, if_pos rfl, e3, gU_same, upd_at, if_neg (by decide), q1, c6]; unfold wrtS; rw [upd_at, if_pos rfl]
    · rw [e4, gU_same, upd_at, if_neg (by decide), e3, gU_same, upd_at, if_neg (by decide), q1, ep _ (by omega) (by omega), eo _ (by omega)]; exact c7
  · exact ((hF2.mono (fun f k z => by unfold prF at z; unfold own; omega)).st e3 (by unfold own; omega)).st e4 (by unfold own; omega)
theorem x_pass_bad {K : Int32 → gW → Prop} {a : Int32} (ha : a < 1 ∨ ¬ a ≤ 20) (hk : K (-2) M) : wX8_pass M a K :=
  ⟨fun _ => hk, fun z => ⟨fun y => absurd ha (fun w => w.elim z (fun v => v y)), fun _ => hk⟩⟩
theorem x_pass_full {K : Int32 → gW → Prop} {a : Int32} (hX : XR M S sn Sn h Hs t n) (h1 : ¬ a < 1) (h20 : a ≤ 20) (hf : ¬ S 1 + a ≤ 999) (hk : K (-3) M) : wX8_pass M a K :=
  br_f h1 (br_t h20 (br_f (by rw [hX.1.2.2.1]; exact hf) hk))
theorem x_pass {K : Int32 → gW → Prop} {a : Int32} (hX : XR M S sn Sn h Hs t n) (hO : Ok S) (h1 : ¬ a < 1) (h20 : a ≤ 20) (hf : S 1 + a ≤ 999) (hk : ∀ M', XR M' (fadS S a) sn Sn (pushN h) (pushH h Hs S) t n → K (nI (sumTo (fdN S a) 702)) M') : wX8_pass M a K := by
  refine br_f h1 (br_t h20 (br_t (by rw [hX.1.2.2.1]; exact hf) (x_act hX hO (fun M1 hX1 hF1 hst M2 e2 => ?_))))
  have hF2 : Fr (fun f k => f = 1 ∧ k = 0) M1 M2 := Fr.rf.st e2 ⟨rfl, rfl⟩
  obtain ⟨c1, c2, c3, c4, c5, c6, c7⟩ := hX1.1
  refine s_fade (c1.fr hF2 (by omega) (by omega)) (fun M3 hR3 hF3 => hk M3 (hst _ M3 ?_ ?_))
  · have ep : ∀ i, i ≠ 1 → fadS S a i = fdP S a i := fun i h => by unfold fadS; rw [upd_at, if_neg h]
    have eo : ∀ i, i < 6 ∨ 1410 ≤ i → fdP S a i = S i := fun i hi => by unfold fdP; rw [if_neg (by omega)]
    have q1 : M3 1 0 = M2 1 0 := hF3 1 0 (by omega)
    refine ⟨fun p hp => by rw [ep _ (by omega), ep _ (by omega)]; exact hR3 p hp, ((c2.fr hF2 hO.2.1.2 (by omega) (fun w _ => ⟨by omega, by omega, by omega⟩)).fr hF3 hO.2.1.2 (by omega) (fun w _ => ⟨by omega, by omega, by omega⟩)).cg (by rw [ep _ (by omega), eo _ (by omega)]) (fun i hi => by rw [ep _ (by omega), eo _ (by omega)]), ?_, ?_, ?_, ?_, ?_⟩
    · rw [q1, e2, gU_same, upd_at, if_pos rfl, c3]; unfold fadS; rw [upd_at, if_pos rfl]
    · rw [q1, e2, gU_same, upd_at, if_neg (by decide), ep _ (by omega), eo _ (by omega)]; exact c4
    · rw [q1, e2, gU_same, upd_at, if_neg (by decide), ep _ (by omega), eo _ (by omega)]; exact c5
    · rw [q1, e2, gU_same, upd_at, if_neg (by decide), ep _ (by omega), eo _ (by omega)]; exact c6
    · rw [q1, e2, gU_same, upd_at, if_neg (by decide), ep _ (by omega), eo _ (by omega)]; exact c7
  · exact (hF2.mono (fun f k z => by unfold own; omega)).tr (hF3.mono (fun f k z => by unfold own; omega))
theorem x_unt_bad {K : Int32 → gW → Prop} {a : Int32} (ha : a < 0 ∨ ¬ a ≤ 99) (hk : K (-2) M) : wX8_setUntried M a K :=
  ⟨fun _ => hk, fun z => ⟨fun y => absurd ha (fun w => w.elim z (fun v => v y)), fun _ => hk⟩⟩
theorem x_unt_none {K : Int32 → gW → Prop} {a : Int32} (hX : XR M S sn Sn h Hs t n) (h0 : ¬ a < 0) (h99 : a ≤ 99) (e : a = S 0) (hk : K (-5) M) : wX8_setUntried M a K :=
  br_f h0 (br_t h99 (br_t (by rw [hX.1.2.2.2.1]; exact e) hk))
theorem x_unt {K : Int32 → gW → Prop} {a : Int32} (hX : XR M S sn Sn h Hs t n) (hO : Ok S) (h0 : ¬ a < 0) (h99 : a ≤ 99) (e : ¬ a = S 0) (hk : ∀ M', XR M' (upd S 0 a) sn Sn (pushN h) (pushH h Hs S) t n → K (S 0) M') : wX8_setUntried M a K := by
  refine br_f h0 (br_t h99 (br_f (by rw [hX.1.2.2.2.1]; exact e) (x_act hX hO (fun M1 hX1 hF1 hst M2 e2 => ?_))))
  rw [hX.1.2.2.2.1]
  have hF2 : Fr (fun f k => f = 1 ∧ k = 0) M1 M2 := Fr.rf.st e2 ⟨rfl, rfl⟩
  obtain ⟨c1, c2, c3, c4, c5, c6, c7⟩ := hX1.1
  have ep : ∀ i, i ≠ 0 → upd S 0 a i = S i := fun i h => by rw [upd_at, if_neg h]
  refine hk M2 (hst _ M2 ⟨fun p hp => by rw [ep _ (by omega), ep _ (by omega)]; exact (c1.fr hF2 (by omega) (by omega)) p hp, (c2.fr hF2 hO.2.1.2 (by omega) (fun w _ => ⟨by omega, by omega, by omega⟩)).cg (ep _ (by omega)) (fun i hi => ep _ (by omega)), ?_, ?_, ?_, ?_, ?_⟩ (hF2.mono (fun f k z => by unfold own; omega)))
  · rw [e2, gU_same, upd_at, if_neg (by decide), ep _ (by omega)]; exact c3
  · rw [e2, gU_same, upd_at, if_pos rfl, upd_at, if_pos rfl]
  · rw [e2, gU_same, upd_at, if_neg (by decide), ep _ (by omega)]; exact c5
  · rw [e2, gU_same, upd_at, if_neg (by decide), ep _ (by omega)]; exact c6
  · rw [e2, gU_same, upd_at, if_neg (by decide), ep _ (by omega)]; exact c7
theorem fltW_le {f : Nat} : ∀ d i l, fltW t d i l = some f → f ≤ i + d := by
  intro d
  induction d with
  | zero => intro i l e; unfold fltW at e; split at e <;> cases e; omega
  | succ d ih =>
    intro i l e; unfold fltW at e
    split at e
    · have := ih _ _ e; omega
    · cases e; omega
theorem x_add_bad {K : Int32 → gW → Prop} {f : Nat} (hX : XR M S sn Sn h Hs t n) (hf : fltW t n 0 0 = some f) (hk : K (-100 - nI f) M) : wX8_addWords M K := by
  refine s_faultAsWords hX.2.2.2 ?_
  rw [hf]
  have := fltW_le n 0 0 hf
  have := hX.2.2.2.2.1
  exact br_f (nI_ne_neg (by omega) (by decide)) hk
/-- the state with other words -/
theorem CR.words {T : gR} (hC : CR M 0 S) (hL : LR M' 0 T) (hF : Fr (ownL 0) M M') (hT : wOnly S T) : CR M' 0 T := by
  obtain ⟨c1, c2, c3, c4, c5, c6, c7⟩ := hC
  have q1 : M' 1 0 = M 1 0 := hF 1 0 (by unfold ownL; omega)
  refine ⟨fun p hp => ?_, hL, by rw [q1, hT _ (by omega) (by omega)]; exact c3, by rw [q1, hT _ (by omega) (by omega)]; exact c4, by rw [q1, hT _ (by omega) (by omega)]; exact c5, by rw [q1, hT _ (by omega) (by omega)]; exact c6, by rw [q1, hT _ (by omega) (by omega)]; exact c7⟩
  rw [hT _ (by omega) (by omega), hT _ (by omega) (by omega)]
  exact (c1.fr hF (by unfold ownL; omega) (by unfold ownL; omega)) p hp
theorem x_add {K : Int32 → gW → Prop} (hX : XR M S sn Sn h Hs t n) (hO : Ok S) (hf : fltW t n 0 0 = none) (hfull : ∀ M', goC t n 0 0 S = none → XR M' S sn Sn h Hs t n → K (-3) M') (hno : ∀ T M', goC t n 0 0 S = some T → T 5 - S 5 = 0 → XR M' S sn Sn h Hs t n → K (-5) M') (hk : ∀ T M', goC t n 0 0 S = some T → ¬ T 5 - S 5 = 0 → OkL T → XR M' T sn Sn (pushN h) (pushH h Hs S) t n → K (T 5 - S 5) M') : wX8_addWords M K := by
  refine s_faultAsWords hX.2.2.2 ?_
  rw [hf]
  refine br_t rfl (s_copyL (by omega) hX.1.2.1 hO.l (fun M1 hL1 hF1 => ?_))
  have hF1s : Fr (spF 2) M M1 := hF1.mono (fun f k z => Or.inl z)
  have hX1 := hX.fr hO hF1s kp_sp
  refine s_spellInto (by omega) hX1.2.2.2 hL1 hO.l hf (fun T M2 hg hL2 hO2 hF2 => br_f (by decide) ?_) (fun M2 hg hF2 => br_t rfl (hfull M2 hg (hX1.fr hO hF2 kp_sp)))
  have hX2 := hX1.fr hO hF2 kp_sp
  rw [hL2.1, hX2.1.2.1.1]
  refine ⟨fun z => hno T M2 hg z hX2, fun z => x_act hX2 hO (fun M3 hX3 hF3 hst => ?_)⟩
  have hL3 : LR M3 2 T := hL2.fr hF3 hO2.1.2 (hiF_low (j := 2) (by omega) (by unfold own; omega)) (fun w hw => ⟨hiF_low (j := 2) (by omega) (by unfold own; omega), hiF_low (j := 2) (by omega) (by unfold own; omega), hiF_low (j := 2) (by omega) (by unfold own; omega)⟩)
  refine s_copyL (by omega) hL3 hO2 (fun M4 hL4 hF4 => hk T M4 hg z hO2 (hst _ M4 (hX3.1.words hL4 hF4 (goC_only _ _ _ _ _ hg)) (hF4.mono (fun f k z => by unfold ownL at z; unfold own; omega))))
theorem x_rm_bad {K : Int32 → gW → Prop} {a : Int32} (hX : XR M S sn Sn h Hs t n) (hO : Ok S) (ha : a < 0 ∨ nI (sN S) ≤ a) (hk : K (-1) M) : wX8_removeWord M a K := by
  refine s_at hX.1.2.1 hO.2.1.2 hO.2.1.1 (fun _ => ⟨fun _ => hk, fun o z => by cases z⟩) (fun w hw e => ?_)
  subst e
  exact absurd ha (fun z => z.elim (nI_pos (by have := hO.2.1.2; omega)) (nI_ge hw (by have := hO.2.1.2; omega)))
theorem x_rm {K : Int32 → gW → Prop} {w : Nat} (hX : XR M S sn Sn h Hs t n) (hO : Ok S) (hw : w < sN S) (hk : ∀ M', XR M' (rmW S w) sn Sn (pushN h) (pushH h Hs S) t n → K (S 5 - 1) M') : wX8_removeWord M (nI w) K := by
  have hN := hO.2.1.2
  refine s_at hX.1.2.1 hN hO.2.1.1 (fun z => absurd z (fun z => z.elim (nI_pos (by omega)) (nI_ge hw (by omega)))) (fun w' hw' e => ⟨fun z => (by cases z), fun o z => ⟨?_, ?_⟩⟩)
  · cases z; show 20 * 0 + w' < 141; omega
  · refine x_act hX hO (fun M1 hX1 hF1 hst => s_drop hX1.1.2.1 hO.l hw (fun M2 hL2 hF2 => ?_))
    rw [hL2.1, rmW_5]
    exact hk M2 (hst _ M2 (hX1.1.words hL2 hF2 rmW_only) (hF2.mono (fun f k z => by unfold ownL at z; unfold own; omega)))
def lnOk (a : Int32) : Prop := ¬ a < 1 ∧ ¬ 10 < a
theorem lnOk_nI {a : Int32} (h : lnOk a) : ∃ k, 1 ≤ k ∧ k ≤ 10 ∧ a = nI k := by
  obtain ⟨j, hj, rfl⟩ := nI_of (fun z => h.1 (Int32.lt_trans z (by decide)) : ¬ a < 0)
  have g1 : ¬ j < 1 := fun z => h.1 ((nI_ltI (b := 1) (by omega) (by omega)).mpr z)
  have g2 : ¬ 10 < j := fun z => h.2 ((nI_ltI (a := 10) (by omega) (by omega)).mpr z)
  exact ⟨j, by omega, by omega, rfl⟩
theorem s_areLines {K : Int32 → gW → Prop} {a : Int32} (h1 : lnOk a → K 1 M) (h0 : ¬ lnOk a → K 0 M) : wX8_areLines M a K :=
  ⟨fun z => h0 (fun w => w.1 z), fun z => ⟨fun y => h0 (fun w => w.2 y), fun y => h1 ⟨z, y⟩⟩⟩
theorem x_do_bad {K : Int32 → gW → Prop} {a : Int32} (ha : ¬ lnOk a) (hk : K (-2) M) : wX8_doSheet M a K := s_areLines (fun z => absurd z ha) (fun _ => br_t rfl hk)
theorem x_do {K : Int32 → gW → Prop} {k : Nat} (hX : XR M S sn Sn h Hs t n) (hO : Ok S) (ha : lnOk (nI k)) (h10 : k ≤ 10) (hno : ∀ M', (shF S k).length = 0 → XR M' S sn Sn h Hs t n → K (-5) M') (hk : ∀ M', ¬ (shF S k).length = 0 → XR M' (prac S (shF S k)) sn Sn (pushN h) (pushH h Hs S) t n → K (nI (shF S k).length) M') : wX8_doSheet M (nI k) K := by
  refine s_areLines (fun _ => br_f (by decide) ?_) (fun z => absurd ha z)
  refine s_choose hX.1 hO h10 (fun M1 hP1 hF1 => ?_)
  have hX1 := hX.fr hO hF1 kp_pl
  have hl := shF_len S k
  rw [hP1.1]
  refine pk_eq (shF S k).length 0 (fun z => hno M1 z hX1) (fun z => x_act hX1 hO (fun M2 hX2 hF2 hst => ?_))
  have npl : ∀ f, 14 ≤ f → ∀ k, ¬ hiF f k := by
    rintro f hf k (z | z | ⟨j, h1, h2, z⟩) <;> (try unfold own at z) <;> omega
  have hP2 : PLR M2 S (shF S k) := by
    unfold PLR at hP1 ⊢
    rw [hF2 14 0 (npl _ (by omega) _), hF2 15 0 (npl _ (by omega) _), hF2 16 0 (npl _ (by omega) _), hF2 17 0 (npl _ (by omega) _), hF2 18 0 (npl _ (by omega) _)]; exact hP1
  refine s_practise (by omega) hX2.1 hO hP2 (fun M3 hC3 hF3 => ?_)
  rw [hF3 14 0 (by omega), hP2.1]
  exact hk M3 z (hst _ M3 hC3 (hF3.mono (fun f k z => by unfold own; omega)))
theorem x_type_full {K : Int32 → gW → Prop} {a : Int32} (hX : XR M S sn Sn h Hs t n) (hn : n = 60) (hk : K (-3) M) : wX8_type M a K := by
  refine br_f ?_ (br_t rfl hk)
  rw [hX.2.2.2.1, hn]; decide
theorem x_type {K : Int32 → gW → Prop} {a : Int32} (hX : XR M S sn Sn h Hs t n) (hO : Ok S) (hn : n < 60) (ha : vp_nar .char a = a) (hk : ∀ M', XR M' S sn Sn h Hs (upd t n a) (n + 1) → K (nI (n + 1)) M') : wX8_type M a K := by
  obtain ⟨x1, x2, x3, h1, h2, h3⟩ := hX
  refine br_t (by rw [h1]; exact nI_lt (b := 60) hn (by omega)) ⟨by rw [h1]; exact pk_in n 60 hn, ha, fun M4 e4 M6 e6 => br_f (by decide) ?_⟩
  rw [h1, nI_clamp (by omega)] at e4
  have s4 : M4 12 0 2 = nI n := by rw [e4, gU_o (by decide)]; exact h1
  rw [s4, nI_add1] at e6
  have v : M6 12 0 2 = nI (n + 1) := by rw [e6, gU_same, upd_at, if_pos rfl]
  rw [v]
  have hF : Fr (fun f _ => f = 12 ∨ f = 13) M M6 := (Fr.rf.st e4 (Or.inr rfl)).st e6 (Or.inl rfl)
  have no : ∀ j f k, own j f k → ¬ (f = 12 ∨ f = 13) := fun j f k z => by unfold own at z; omega
  refine hk M6 ⟨x1.fr hF hO.2.1.2 (no _), ⟨by rw [hF 0 0 (by omega)]; exact x2.1, fun e => ⟨(x2.2 e).1.fr hF (x2.2 e).2.2.1.2 (no _), (x2.2 e).2⟩⟩, x3.fr hF (fun f k z => ?_), v, by omega, fun i hi => ?_⟩
  · rcases z with z | z | ⟨j, z1, z2, z⟩
    · omega
    · omega
    · exact no j f k z
  · rw [e6, gU_o (by decide), e4, gU_same, upd_at, upd_at]
    by_cases hin : i = n
    · rw [if_pos hin, if_pos hin]
    · rw [if_neg hin, if_neg hin]; exact h3 i (by omega)
theorem x_clear {K : Int32 → gW → Prop} (hX : XR M S sn Sn h Hs t n) (hO : Ok S) (hk : ∀ M', XR M' S sn Sn h Hs t 0 → K (nI n) M') : wX8_clearText M K := by
  obtain ⟨x1, x2, x3, h1, h2, h3⟩ := hX
  intro M1 e1
  rw [h1]
  have hF : Fr (fun f _ => f = 12) M M1 := Fr.rf.st e1 rfl
  have no : ∀ j f k, own j f k → ¬ f = 12 := fun j f k z => by unfold own at z; omega
  refine hk M1 ⟨x1.fr hF hO.2.1.2 (no _), ⟨by rw [hF 0 0 (by omega)]; exact x2.1, fun e => ⟨(x2.2 e).1.fr hF (x2.2 e).2.2.1.2 (no _), (x2.2 e).2⟩⟩, x3.fr hF (fun f k z => ?_), by rw [e1, gU_same, upd_at, if_pos rfl]; rfl, by omega, fun i hi => absurd hi (by omega)⟩
  rcases z with z | z | ⟨j, z1, z2, z⟩
  · omega
  · omega
  · exact no j f k z
theorem x_undo {K : Int32 → gW → Prop} (hX : XR M S sn Sn h Hs t n) (h0 : h = 0 → K (-5) M) (hk : ∀ M', 0 < h → XR M' (Hs (h - 1)) sn Sn (h - 1) Hs t n → K (nI (h - 1)) M') : wX8_undo M K := by
  obtain ⟨x1, x2, x3, x4⟩ := hX
  refine s_takeBack x3 (fun z => br_t rfl (h0 z)) (fun M1 hp hC1 hH1 hF1 => br_f (by decide) ?_)
  rw [hH1.1]
  refine hk M1 hp ⟨hC1, ⟨by rw [hF1 0 0 (by unfold own; omega)]; exact x2.1, fun e => ⟨(x2.2 e).1.fr hF1 (x2.2 e).2.2.1.2 (fun f k z y => ?_), (x2.2 e).2⟩⟩, hH1, x4.fr hF1 (by unfold own; omega) (by unfold own; omega)⟩
  rcases y with y | y
  · unfold own at z; omega
  · exact own_ne (i := 1) (j := 0) (by omega) f k z y
theorem x_keep {K : Int32 → gW → Prop} (hX : XR M S sn Sn h Hs t n) (hO : Ok S) (hk : ∀ M', XR M' S true S h Hs t n → K (S 5) M') : wX8_keep M K := by
  obtain ⟨x1, x2, x3, x4⟩ := hX
  refine s_copyS (by omega) x1 hO.l (fun M1 hC1 hF1 M2 e2 => ?_)
  have hF2 : Fr (fun f _ => f = 0) M1 M2 := Fr.rf.st e2 rfl
  have no : ∀ j f k, own j f k → ¬ f = 0 := fun j f k z => by unfold own at z; omega
  have hC0 : CR M2 0 S := (x1.other hF1 hO.2.1.2 (by omega)).fr hF2 hO.2.1.2 (no _)
  rw [hC0.2.1.1]
  refine hk M2 ⟨hC0, ⟨by rw [e2, gU_same, upd_at, if_pos rfl]; rfl, fun _ => ⟨hC1.fr hF2 hO.2.1.2 (no _), hO⟩⟩, (x3.fr hF1 (fun f k z => ?_)).fr hF2 (fun f k z => ?_), (x4.fr hF1 (by unfold own; omega) (by unfold own; omega)).fr hF2 (by omega) (by omega)⟩
  · rcases z with z | z | ⟨j, z1, z2, z⟩
    · unfold own; omega
    · unfold own; omega
    · exact own_ne (by omega) f k z
  · rcases z with z | z | ⟨j, z1, z2, z⟩
    · omega
    · omega
    · exact no j f k z
theorem x_restore {K : Int32 → gW → Prop} (hX : XR M S sn Sn h Hs t n) (hO : Ok S) (h0 : sn = false → K (-5) M) (hk : ∀ M', sn = true → XR M' Sn sn Sn (pushN h) (pushH h Hs S) t n → K (Sn 5) M') : wX8_restore M K := by
  unfold wX8_restore
  rw [hX.2.1.1]
  cases sn with
  | false => exact br_t rfl (h0 rfl)
  | true =>
    refine br_f (by decide) (x_act hX hO (fun M1 hX1 hF1 hst => ?_))
    have hs := hX1.2.1.2 rfl
    refine s_copyS (by omega) hs.1 hs.2.l (fun M2 hC2 hF2 => ?_)
    rw [hC2.2.1.1]
    exact hk M2 rfl (hst _ M2 hC2 hF2)
end XP
