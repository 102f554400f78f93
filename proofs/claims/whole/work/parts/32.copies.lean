/-! ===== LAYER 2: frames, and the class's copies ===== -/
/-- all cells that P doesn't name stay -/
def Fr (P : Nat → Nat → Prop) (M M' : gW) : Prop := ∀ f k, ¬ P f k → M' f k = M f k
theorem Fr.rf {P : Nat → Nat → Prop} {M : gW} : Fr P M M := fun _ _ _ => rfl
theorem Fr.tr {P : Nat → Nat → Prop} {M1 M2 M3 : gW} (h1 : Fr P M1 M2) (h2 : Fr P M2 M3) : Fr P M1 M3 := fun f k h => (h2 f k h).trans (h1 f k h)
theorem Fr.st {P : Nat → Nat → Prop} {M M1 M2 : gW} {f k : Nat} {r : Nat → Int32} (h1 : Fr P M M1) (e : M2 = gU M1 f k r) (h : P f k) : Fr P M M2 := fun f' k' hn => by
  rw [e, gU_ne (fun z => hn (by rw [z.1, z.2]; exact h))]; exact h1 f' k' hn
theorem Fr.mono {P Q : Nat → Nat → Prop} {M M' : gW} (h : Fr P M M') (hPQ : ∀ f k, P f k → Q f k) : Fr Q M M' := fun f k hn => h f k (fun z => hn (hPQ f k z))
section CP
variable {P : Nat → Nat → Prop} {M M' : gW} {j q n : Nat} {S : gR} {c : Nat → Nat}
theorem PR.fr (h : PR M j S) (hF : Fr P M M') (h3 : ¬ P 3 j) (h4 : ¬ P 4 j) : PR M' j S := fun p hp => by rw [hF 3 j h3, hF 4 j h4]; exact h p hp
theorem WR.fr (h : WR M q c n) (hF : Fr P M M') (h7 : ¬ P 7 q) (h8 : ¬ P 8 q) (h9 : ¬ P 9 q) : WR M' q c n := by
  unfold WR at h ⊢; rw [hF 7 q h7, hF 8 q h8, hF 9 q h9]; exact h
theorem LR.fr (h : LR M j S) (hF : Fr P M M') (hN : sN S ≤ 20) (h5 : ¬ P 5 j) (hw : ∀ w, w < 20 → ¬ P 7 (20 * j + w) ∧ ¬ P 8 (20 * j + w) ∧ ¬ P 9 (20 * j + w)) : LR M' j S :=
  ⟨by rw [hF 5 j h5]; exact h.1, fun w hn => (h.2 w hn).fr hF (hw w (by omega)).1 (hw w (by omega)).2.1 (hw w (by omega)).2.2⟩
/-- the cells of the state of number j -/
def own (j : Nat) : Nat → Nat → Prop := fun f k => ((f = 1 ∨ f = 3 ∨ f = 4 ∨ f = 5) ∧ k = j) ∨ ((f = 7 ∨ f = 8 ∨ f = 9) ∧ 20 * j ≤ k ∧ k < 20 * j + 20)
theorem CR.fr (h : CR M j S) (hF : Fr P M M') (hN : sN S ≤ 20) (hP : ∀ f k, own j f k → ¬ P f k) : CR M' j S := by
  obtain ⟨h1, h2, h3⟩ := h
  refine ⟨h1.fr hF (hP 3 j (Or.inl ⟨by omega, rfl⟩)) (hP 4 j (Or.inl ⟨by omega, rfl⟩)), h2.fr hF hN (hP 5 j (Or.inl ⟨by omega, rfl⟩)) (fun w hw => ⟨hP 7 _ (Or.inr ⟨by omega, by omega, by omega⟩), hP 8 _ (Or.inr ⟨by omega, by omega, by omega⟩), hP 9 _ (Or.inr ⟨by omega, by omega, by omega⟩)⟩), ?_⟩
  rw [hF 1 j (hP 1 j (Or.inl ⟨by omega, rfl⟩))]; exact h3
/-- another state's cells are others -/
theorem own_ne {i j : Nat} (h : i ≠ j) : ∀ f k, own i f k → ¬ own j f k := by
  intro f k h1 h2
  unfold own at h1 h2
  omega
theorem CR.other {i : Nat} (h : CR M j S) (hF : Fr (own i) M M') (hN : sN S ≤ 20) (hij : j ≠ i) : CR M' j S := h.fr hF hN (own_ne hij)
/-! copies -/
theorem s_copyP {K : gW → Prop} {k0 k1 : Nat} (hR : PR M k1 S) (h : ∀ M', PR M' k0 S → Fr (fun f k => (f = 3 ∨ f = 4) ∧ k = k0) M M' → K M') : wX1_copyFrom M k0 k1 K := by
  intro M1 e1 M3 e3
  refine h M3 (fun p hp => ⟨?_, ?_⟩) ((Fr.rf.st e1 ⟨Or.inl rfl, rfl⟩).st e3 ⟨Or.inr rfl, rfl⟩)
  · rw [e3, gU_o (by decide), e1, gU_same, cpy_lt hp]; exact (hR p hp).1
  · rw [e3, gU_same, cpy_lt hp, e1, gU_o (by decide)]; exact (hR p hp).2
theorem s_copyW {K : gW → Prop} {q0 q1 : Nat} (hW : WR M q1 c n) (hn : n ≤ 15) (h : ∀ M', WR M' q0 c n → Fr (fun f k => (f = 7 ∨ f = 8 ∨ f = 9) ∧ k = q0) M M' → K M') : wX6_copyFrom M q0 q1 K := by
  intro M1 e1 M3 e3 M5 e5 M7 e7
  have hl := ptF_len c n
  refine h M7 ⟨?_, fun i hi => ?_, ?_, fun i hi => ?_⟩ ((((Fr.rf.st e1 ⟨by omega, rfl⟩).st e3 ⟨by omega, rfl⟩).st e5 ⟨by omega, rfl⟩).st e7 ⟨by omega, rfl⟩)
  · rw [e7, gU_same, upd_at, if_neg (by decide), e5, gU_same, upd_at, if_pos rfl, e3, gU_o (by decide), e1, gU_o (by decide)]; exact hW.1
  · rw [e7, gU_o (by decide), e5, gU_o (by decide), e3, gU_o (by decide), e1, gU_same, cpy_lt (by omega)]; exact hW.2.1 i hi
  · have e : M5 7 q1 3 = M 7 q1 3 := by
      rw [e5, gU_f]
      split
      · rename_i hq; subst hq; rw [upd_at, if_neg (by decide), e3, gU_o (by decide), e1, gU_o (by decide)]
      · rw [e3, gU_o (by decide), e1, gU_o (by decide)]
    rw [e7, gU_same, upd_at, if_pos rfl, e]; exact hW.2.2.1
  · rw [e7, gU_o (by decide), e5, gU_o (by decide), e3, gU_same, cpy_lt (by omega), e1, gU_o (by decide)]; exact hW.2.2.2 i hi
def ownL (j : Nat) : Nat → Nat → Prop := fun f k => (f = 5 ∧ k = j) ∨ ((f = 7 ∨ f = 8 ∨ f = 9) ∧ 20 * j ≤ k ∧ k < 20 * j + 20)
def OkL (S : gR) : Prop := (S 5 = nI (sN S) ∧ sN S ≤ 20) ∧ ∀ w, w < sN S → OkW S w
theorem Ok.l (h : Ok S) : OkL S := ⟨h.2.1, h.2.2.1⟩
theorem s_copyL {K : gW → Prop} {k0 k1 : Nat} (hk : k0 ≠ k1) (hL : LR M k1 S) (hO : OkL S) (h : ∀ M', LR M' k0 S → Fr (ownL k0) M M' → K M') : wX7_copyFrom M k0 k1 K := by
  obtain ⟨⟨h5, hN⟩, hw⟩ := hO
  refine ⟨_, p_loop0 (fun f i => ∀ M2, Fr (ownL k0) M M2 → (∀ w, w < i → WR M2 (20 * k0 + w) (sC S w) (sL S w)) → wX7_copyFrom_L2 k0 k1 (fun M8 x2_9 => (∀ M10 : gW, M10 = gU M8 5 k0 (upd (M8 5 k0) 1 (M8 5 k1 1)) → (K M10))) f M2 (nI i)) (sN S) ?_ ?_ M Fr.rf (fun w hw => absurd hw (by omega))⟩
  · intro f M2 hF hr
    have e5 : M2 5 k1 1 = S 5 := by rw [hF 5 k1 (by unfold ownL; omega)]; exact hL.1
    refine br_t (by rw [e5, h5]; exact nI_le (by omega) (by omega)) (fun M3 e3 => ?_)
    refine h M3 ⟨?_, fun w hn => ?_⟩ (hF.st e3 (Or.inl ⟨rfl, rfl⟩))
    · rw [e3, gU_same, upd_at, if_pos rfl, e5]
    · exact (hr w hn).fr (Fr.rf.st (P := fun f _ => f = 5) e3 rfl) (by decide) (by decide) (by decide)
  · intro f i hi ih M2 hF hr
    have e5 : M2 5 k1 1 = S 5 := by rw [hF 5 k1 (by unfold ownL; omega)]; exact hL.1
    refine br_f (by rw [e5, h5]; exact nI_ge hi (by omega)) ⟨pk_in i 20 (by omega), pk_in i 20 (by omega), ?_⟩
    rw [nI_clamp (by omega), nI_add1]
    have hq : WR M2 (20 * k1 + i) (sC S i) (sL S i) := (hL.2 i hi).fr hF (by unfold ownL; omega) (by unfold ownL; omega) (by unfold ownL; omega)
    refine s_copyW hq (hw i hi).2.2.1 (fun M3 hW3 hF3 => ih M3 (hF.tr (hF3.mono (fun f k z => Or.inr ⟨z.1, by omega, by omega⟩))) (fun w hw' => ?_))
    rcases Nat.lt_or_ge w i with z | z
    · exact (hr w z).fr hF3 (by omega) (by omega) (by omega)
    · obtain rfl : w = i := by omega
      exact hW3
theorem s_copyS {K : gW → Prop} {k0 k1 : Nat} (hk : k0 ≠ k1) (hC : CR M k1 S) (hO : OkL S) (h : ∀ M', CR M' k0 S → Fr (own k0) M M' → K M') : wX4_copyFrom M k0 k1 K := by
  obtain ⟨hR, hL, h2, h3, h4, h5, h6⟩ := hC
  refine s_copyP hR (fun M1 hR1 hF1 => s_copyL hk (hL.fr hF1 hO.1.2 (by omega) (fun w _ => ⟨by omega, by omega, by omega⟩)) hO (fun M2 hL2 hF2 => ?_))
  have hR2 := hR1.fr hF2 (by unfold ownL; omega) (by unfold ownL; omega)
  have e : M2 1 k1 = M 1 k1 := by rw [hF2 1 k1 (by unfold ownL; omega), hF1 1 k1 (by omega)]
  intro M3 e3 M5 e5 M7 e7 M9 e9 M11 e11
  have hF : Fr (fun f k => f = 1 ∧ k = k0) M2 M11 := ((((Fr.rf.st e3 ⟨rfl, rfl⟩).st e5 ⟨rfl, rfl⟩).st e7 ⟨rfl, rfl⟩).st e9 ⟨rfl, rfl⟩).st e11 ⟨rfl, rfl⟩
  have hk' : ¬ k1 = k0 := fun z => hk z.symm
  refine h M11 ⟨hR2.fr hF (by omega) (by omega), hL2.fr hF hO.1.2 (by omega) (fun w _ => ⟨by omega, by omega, by omega⟩), ?_, ?_, ?_, ?_, ?_⟩ ?_
  · rw [e11, e9, e7, e5, e3]; simp only [gU_f, upd_at, if_neg hk', if_true, e]; simpa using h2
  · rw [e11, e9, e7, e5, e3]; simp only [gU_f, upd_at, if_neg hk', if_true, e]; simpa using h3
  · rw [e11, e9, e7, e5, e3]; simp only [gU_f, upd_at, if_neg hk', if_true, e]; simpa using h4
  · rw [e11, e9, e7, e5, e3]; simp only [gU_f, upd_at, if_neg hk', if_true, e]; simpa using h5
  · rw [e11, e9, e7, e5, e3]; simp only [gU_f, upd_at, if_neg hk', if_true, e]; simpa using h6
  · refine ((hF1.mono (fun f k z => ?_)).tr (hF2.mono (fun f k z => ?_))).tr (hF.mono (fun f k z => ?_))
    · unfold own; omega
    · unfold ownL at z; unfold own; omega
    · unfold own; omega
end CP
