/-! ===== LAYER 3: class and reference, call by call ===== -/
/-- class and reference hold the same -/
def INV (M1 M2 : gW) : Prop := ∃ (S : gR) (sn : Bool) (Sn : gR) (h : Nat) (Hs : Nat → gR) (t : Nat → Int32) (n : Nat), Ok S ∧ XR M1 S sn Sn h Hs t n ∧ YR M2 S sn Sn h Hs t n
/-- both come to the answer r and to the same -/
def BOTH (f g : (Int32 → gW → Prop) → Prop) : Prop := ∃ (r : Int32) (S : gR) (sn : Bool) (Sn : gR) (h : Nat) (Hs : Nat → gR) (t : Nat → Int32) (n : Nat), Ok S ∧ f (fun r1 M1 => r1 = r ∧ XR M1 S sn Sn h Hs t n) ∧ g (fun r2 M2 => r2 = r ∧ YR M2 S sn Sn h Hs t n)
section JT
variable {M1 M2 : gW}
theorem j_write (hI : INV M1 M2) : BOTH (wX8_write M1) (wX9_write M2) := by
  obtain ⟨S, sn, Sn, h, Hs, t, n, hO, hX, hY⟩ := hI
  cases hf : fltT t n 0 45 0 with
  | some f => exact ⟨-100 - nI f, S, sn, Sn, h, Hs, t, n, hO, x_write_bad hX hf ⟨rfl, hX⟩, y_write_bad hY hf (fun M' hY' => ⟨rfl, hY'⟩)⟩
  | none =>
    have hb : ∀ x ∈ bsF t n (n + 1) 0, x.1 < 26 := bsF_lt (n + 1) n 0 45 0 (by omega) hf (fun hp => by
      obtain ⟨d3, rfl⟩ : ∃ d3, n = d3 + 1 := ⟨n - 1, by omega⟩
      exact st_45 hf)
    exact ⟨nI (slp (bsF t n (n + 1) 0)), wrtS S (bsF t n (n + 1) 0), sn, Sn, pushN h, pushH h Hs S, t, n, wrt_ok hO hb, x_write hX hO hf (fun M' hX' => ⟨rfl, hX'⟩), y_write hY hf hb (fun M' hY' => ⟨rfl, hY'⟩)⟩
theorem j_pass (hI : INV M1 M2) (a : Int32) : BOTH (wX8_pass M1 a) (wX9_pass M2 a) := by
  obtain ⟨S, sn, Sn, h, Hs, t, n, hO, hX, hY⟩ := hI
  by_cases h1 : a < 1
  · exact ⟨-2, S, sn, Sn, h, Hs, t, n, hO, x_pass_bad (Or.inl h1) ⟨rfl, hX⟩, y_pass_bad (Or.inl h1) ⟨rfl, hY⟩⟩
  · by_cases h20 : a ≤ 20
    · by_cases hf : S 1 + a ≤ 999
      · obtain ⟨k, hk, rfl⟩ := nI_of (fun z => h1 (Int32.lt_trans z (by decide)) : ¬ a < 0)
        obtain ⟨v, hv, hv9⟩ := hO.2.2.2.2
        have hk20 : k ≤ 20 := by
          rcases Nat.lt_or_ge 20 k with z | z
          · exact absurd h20 (nI_ge (a := 20) (b := k) z hk)
          · exact z
        have hvk : S 1 + nI k = nI (v + k) := by rw [hv, nI_add]
        have hvk9 : v + k ≤ 999 := by
          rcases Nat.lt_or_ge 999 (v + k) with z | z
          · rw [hvk] at hf; exact absurd hf (nI_ge (a := 999) (b := v + k) z (by omega))
          · exact z
        exact ⟨nI (sumTo (fdN S (nI k)) 702), fadS S (nI k), sn, Sn, pushN h, pushH h Hs S, t, n, fad_ok hO rfl hk20 hvk hvk9, x_pass hX hO h1 h20 hf (fun M' hX' => ⟨rfl, hX'⟩), y_pass hY h1 h20 hf (fun M' hY' => ⟨rfl, hY'⟩)⟩
      · exact ⟨-3, S, sn, Sn, h, Hs, t, n, hO, x_pass_full hX h1 h20 hf ⟨rfl, hX⟩, y_pass_full hY h1 h20 hf ⟨rfl, hY⟩⟩
    · exact ⟨-2, S, sn, Sn, h, Hs, t, n, hO, x_pass_bad (Or.inr h20) ⟨rfl, hX⟩, y_pass_bad (Or.inr h20) ⟨rfl, hY⟩⟩
theorem j_setUntried (hI : INV M1 M2) (a : Int32) : BOTH (wX8_setUntried M1 a) (wX9_setUntried M2 a) := by
  obtain ⟨S, sn, Sn, h, Hs, t, n, hO, hX, hY⟩ := hI
  by_cases h1 : a < 0
  · exact ⟨-2, S, sn, Sn, h, Hs, t, n, hO, x_unt_bad (Or.inl h1) ⟨rfl, hX⟩, y_unt_bad (Or.inl h1) ⟨rfl, hY⟩⟩
  · by_cases h99 : a ≤ 99
    · by_cases he : a = S 0
      · exact ⟨-5, S, sn, Sn, h, Hs, t, n, hO, x_unt_none hX h1 h99 he ⟨rfl, hX⟩, y_unt_none hY h1 h99 he ⟨rfl, hY⟩⟩
      · obtain ⟨k, hk, rfl⟩ := nI_of h1
        have hk9 : k ≤ 99 := by
          rcases Nat.lt_or_ge 99 k with z | z
          · exact absurd h99 (nI_ge (a := 99) (b := k) z hk)
          · exact z
        exact ⟨S 0, upd S 0 (nI k), sn, Sn, pushN h, pushH h Hs S, t, n, unt_ok hO rfl hk9, x_unt hX hO h1 h99 he (fun M' hX' => ⟨rfl, hX'⟩), y_unt hY h1 h99 he (fun M' hY' => ⟨rfl, hY'⟩)⟩
    · exact ⟨-2, S, sn, Sn, h, Hs, t, n, hO, x_unt_bad (Or.inr h99) ⟨rfl, hX⟩, y_unt_bad (Or.inr h99) ⟨rfl, hY⟩⟩
theorem j_addWords (hI : INV M1 M2) : BOTH (wX8_addWords M1) (wX9_addWords M2) := by
  obtain ⟨S, sn, Sn, h, Hs, t, n, hO, hX, hY⟩ := hI
  cases hf : fltW t n 0 0 with
  | some f => exact ⟨-100 - nI f, S, sn, Sn, h, Hs, t, n, hO, x_add_bad hX hf ⟨rfl, hX⟩, y_add_bad hY hf ⟨rfl, hY⟩⟩
  | none =>
    cases hg : goC t n 0 0 S with
    | none => exact ⟨-3, S, sn, Sn, h, Hs, t, n, hO, x_add hX hO hf (fun M' _ hX' => ⟨rfl, hX'⟩) (fun T M' e => by rw [hg] at e; cases e) (fun T M' e => by rw [hg] at e; cases e), y_add hY hO hf (fun M' _ hY' => ⟨rfl, hY'⟩) (fun T M' e => by rw [hg] at e; cases e) (fun T M' e => by rw [hg] at e; cases e)⟩
    | some T =>
      by_cases hz : T 5 - S 5 = 0
      · refine ⟨-5, S, sn, Sn, h, Hs, t, n, hO, x_add hX hO hf (fun M' e => by rw [hg] at e; cases e) (fun T' M' e z hX' => ⟨rfl, hX'⟩) (fun T' M' e z => ?_), y_add hY hO hf (fun M' e => by rw [hg] at e; cases e) (fun T' M' e z hY' => ⟨rfl, hY'⟩) (fun T' M' e z => ?_)⟩
        · rw [hg] at e; cases e; exact absurd hz z
        · rw [hg] at e; cases e; exact absurd hz z
      · have hy : ∃ hOT : OkL T, True := by
          -- well formed: the text is of words
          have hl : ∀ d p fr (S1 T1 : gR), p + d = n → fr ≤ p → p - fr ≤ 15 → (∀ j, fr ≤ j → j < p → isL (t j) = true) → fltW t d p (p - fr) = none → OkL S1 → goC t d p fr S1 = some T1 → OkL T1 := by
            intro d
            induction d with
            | zero =>
              intro p fr S1 T1 hp hfr h15 hL hf1 hO1 e
              have h1 : ¬ p - fr = 0 := fun z => by unfold fltW at hf1; rw [if_pos z] at hf1; cases hf1
              exact addW_ok hO1 (by omega) h15 (fun j hj => (lt_of (hL (fr + j) (by omega) (by omega))).1) e
            | succ d ih =>
              intro p fr S1 T1 hp hfr h15 hL hf1 hO1 e
              have e' : (if t p = 44 then (match addW S1 (fun j => lt t (fr + j)) (p - fr) with | none => none | some S' => goC t d (p + 1) (p + 1) S') else goC t d (p + 1) fr S1) = some T1 := e
              have hst : fltW t (d + 1) p (p - fr) = (match stepW (p - fr) (t p) with | some l' => fltW t d (p + 1) l' | none => some p) := rfl
              rw [hst] at hf1
              unfold stepW at hf1
              by_cases h44 : t p = 44
              · rw [if_pos h44] at e'
                rw [if_neg (fun y => by rw [h44, isL_44] at y; exact absurd y.1 (by decide))] at hf1
                have h0 : 0 < p - fr := by
                  rcases Nat.eq_zero_or_pos (p - fr) with y | y
                  · rw [if_neg (by omega)] at hf1; cases hf1
                  · exact y
                rw [if_pos ⟨h44, h0⟩] at hf1
                cases ha : addW S1 (fun j => lt t (fr + j)) (p - fr) with
                | none => rw [ha] at e'; cases e'
                | some S' =>
                  rw [ha] at e'
                  exact ih (p + 1) (p + 1) S' T1 (by omega) (Nat.le_refl _) (by omega) (fun j h1 h2 => absurd h1 (by omega)) (by rw [Nat.sub_self]; exact hf1) (addW_ok hO1 (by omega) h15 (fun j hj => (lt_of (hL (fr + j) (by omega) (by omega))).1) ha) e'
              · rw [if_neg h44] at e'
                have hx : isL (t p) = true ∧ p - fr < 15 := by
                  by_cases y : isL (t p) = true ∧ p - fr < 15
                  · exact y
                  · rw [if_neg y, if_neg (fun w => h44 w.1)] at hf1; cases hf1
                rw [if_pos hx] at hf1
                exact ih (p + 1) fr S1 T1 (by omega) (by omega) (by omega) (fun j h1 h2 => by
                  rcases Nat.lt_or_ge j p with y | y
                  · exact hL j h1 y
                  · obtain rfl : j = p := by omega
                    exact hx.1) (by rw [show p + 1 - fr = p - fr + 1 by omega]; exact hf1) hO1 e'
          exact ⟨hl n 0 0 S T (by omega) (Nat.le_refl _) (by omega) (fun j h1 h2 => absurd h2 (by omega)) hf hO.l hg, trivial⟩
        obtain ⟨hOT, -⟩ := hy
        refine ⟨T 5 - S 5, T, sn, Sn, pushN h, pushH h Hs S, t, n, (goC_only n 0 0 S T hg).ok hO hOT, x_add hX hO hf (fun M' e => by rw [hg] at e; cases e) (fun T' M' e z => ?_) (fun T' M' e z _ hX' => ?_), y_add hY hO hf (fun M' e => by rw [hg] at e; cases e) (fun T' M' e z => ?_) (fun T' M' e z _ hY' => ?_)⟩
        · rw [hg] at e; cases e; exact absurd z hz
        · rw [hg] at e; cases e; exact ⟨rfl, hX'⟩
        · rw [hg] at e; cases e; exact absurd z hz
        · rw [hg] at e; cases e; exact ⟨rfl, hY'⟩
/-- a word's number -/
theorem ix_of {S : gR} (hO : Ok S) (a : Int32) : (a < 0 ∨ nI (sN S) ≤ a) ∨ ∃ w, w < sN S ∧ a = nI w := by
  rcases pk_ix a (n := sN S) (by have := hO.2.1.2; omega) with q | q | ⟨w, hw, e⟩
  · exact Or.inl (Or.inl q)
  · exact Or.inl (Or.inr q)
  · exact Or.inr ⟨w, hw, e⟩
theorem j_removeWord (hI : INV M1 M2) (a : Int32) : BOTH (wX8_removeWord M1 a) (wX9_removeWord M2 a) := by
  obtain ⟨S, sn, Sn, h, Hs, t, n, hO, hX, hY⟩ := hI
  rcases ix_of hO a with hb | ⟨w, hw, rfl⟩
  · exact ⟨-1, S, sn, Sn, h, Hs, t, n, hO, x_rm_bad hX hO hb ⟨rfl, hX⟩, y_rm_bad hY hO hb ⟨rfl, hY⟩⟩
  · exact ⟨S 5 - 1, rmW S w, sn, Sn, pushN h, pushH h Hs S, t, n, rmW_only.ok hO (rmW_ok hO.l hw), x_rm hX hO hw (fun M' hX' => ⟨rfl, hX'⟩), y_rm hY hO hw (fun M' hY' => ⟨rfl, hY'⟩)⟩
theorem j_doSheet (hI : INV M1 M2) (a : Int32) : BOTH (wX8_doSheet M1 a) (wX9_doSheet M2 a) := by
  obtain ⟨S, sn, Sn, h, Hs, t, n, hO, hX, hY⟩ := hI
  by_cases ha : lnOk a
  · obtain ⟨k, h1, h10, rfl⟩ := lnOk_nI ha
    by_cases hz : (shF S k).length = 0
    · exact ⟨-5, S, sn, Sn, h, Hs, t, n, hO, x_do hX hO ha h10 (fun M' _ hX' => ⟨rfl, hX'⟩) (fun M' z => absurd hz z), y_do hY hO ha h10 (fun M' _ hY' => ⟨rfl, hY'⟩) (fun M' z => absurd hz z)⟩
    · exact ⟨nI (shF S k).length, prac S (shF S k), sn, Sn, pushN h, pushH h Hs S, t, n, prac_ok hO (shF_lt S k), x_do hX hO ha h10 (fun M' z => absurd z hz) (fun M' _ hX' => ⟨rfl, hX'⟩), y_do hY hO ha h10 (fun M' z => absurd z hz) (fun M' _ hY' => ⟨rfl, hY'⟩)⟩
  · exact ⟨-2, S, sn, Sn, h, Hs, t, n, hO, x_do_bad ha ⟨rfl, hX⟩, y_do_bad ha ⟨rfl, hY⟩⟩
theorem j_type (hI : INV M1 M2) (a : Int32) (hc : vp_nar .char a = a) : BOTH (wX8_type M1 a) (wX9_type M2 a) := by
  obtain ⟨S, sn, Sn, h, Hs, t, n, hO, hX, hY⟩ := hI
  by_cases hn : n = 60
  · exact ⟨-3, S, sn, Sn, h, Hs, t, n, hO, x_type_full hX hn ⟨rfl, hX⟩, y_type_full hY hn ⟨rfl, hY⟩⟩
  · have hn60 : n < 60 := by have := hX.2.2.2.2.1; omega
    exact ⟨nI (n + 1), S, sn, Sn, h, Hs, upd t n a, n + 1, hO, x_type hX hO hn60 hc (fun M' hX' => ⟨rfl, hX'⟩), y_type hY hn60 (fun M' hY' => ⟨rfl, hY'⟩)⟩
theorem j_clearText (hI : INV M1 M2) : BOTH (wX8_clearText M1) (wX9_clearText M2) := by
  obtain ⟨S, sn, Sn, h, Hs, t, n, hO, hX, hY⟩ := hI
  exact ⟨nI n, S, sn, Sn, h, Hs, t, 0, hO, x_clear hX hO (fun M' hX' => ⟨rfl, hX'⟩), y_clear hY (fun M' hY' => ⟨rfl, hY'⟩)⟩
theorem j_undo (hI : INV M1 M2) : BOTH (wX8_undo M1) (wX9_undo M2) := by
  obtain ⟨S, sn, Sn, h, Hs, t, n, hO, hX, hY⟩ := hI
  by_cases hz : h = 0
  · exact ⟨-5, S, sn, Sn, h, Hs, t, n, hO, x_undo hX (fun _ => ⟨rfl, hX⟩) (fun M' z => absurd hz (by omega)), y_undo hY (fun _ => ⟨rfl, hY⟩) (fun M' z => absurd hz (by omega))⟩
  · have hO' : Ok (Hs (h - 1)) := by
      obtain ⟨-, -, π, -, -, h5⟩ := hX.2.2.1
      exact (h5 (h - 1) (by omega)).2
    exact ⟨nI (h - 1), Hs (h - 1), sn, Sn, h - 1, Hs, t, n, hO', x_undo hX (fun z => absurd z hz) (fun M' _ hX' => ⟨rfl, hX'⟩), y_undo hY (fun z => absurd z hz) (fun M' _ hY' => ⟨rfl, hY'⟩)⟩
theorem j_keep (hI : INV M1 M2) : BOTH (wX8_keep M1) (wX9_keep M2) := by
  obtain ⟨S, sn, Sn, h, Hs, t, n, hO, hX, hY⟩ := hI
  exact ⟨S 5, S, true, S, h, Hs, t, n, hO, x_keep hX hO (fun M' hX' => ⟨rfl, hX'⟩), y_keep hY (fun M' hY' => ⟨rfl, hY'⟩)⟩
theorem j_restore (hI : INV M1 M2) : BOTH (wX8_restore M1) (wX9_restore M2) := by
  obtain ⟨S, sn, Sn, h, Hs, t, n, hO, hX, hY⟩ := hI
  cases sn with
  | false => exact ⟨-5, S, false, Sn, h, Hs, t, n, hO, x_restore hX hO (fun _ => ⟨rfl, hX⟩) (fun M' z => by cases z), y_restore hY (fun _ => ⟨rfl, hY⟩) (fun M' z => by cases z)⟩
  | true =>
    have hO' : Ok Sn := (hX.2.1.2 rfl).2
    exact ⟨Sn 5, Sn, true, Sn, pushN h, pushH h Hs S, t, n, hO', x_restore hX hO (fun z => by cases z) (fun M' _ hX' => ⟨rfl, hX'⟩), y_restore hY (fun z => by cases z) (fun M' _ hY' => ⟨rfl, hY'⟩)⟩
theorem j_letter (hI : INV M1 M2) (x a : Int32) : BOTH (wX8_letter M1 x a) (wX9_letter M2 x a) := by
  obtain ⟨S, sn, Sn, h, Hs, t, n, hO, hX, hY⟩ := hI
  cases hx : isL x with
  | false => exact ⟨-1, S, sn, Sn, h, Hs, t, n, hO, x_letter hX.1 hO (fun l z => by rw [hx] at z; cases z) (fun _ => ⟨rfl, hX⟩), y_letter hY hO (fun l M' z => by rw [hx] at z; cases z) (fun _ => ⟨rfl, hY⟩)⟩
  | true =>
    have key : ∀ l, l < 26 → x - 97 = nI l → l = (x - 97).toNatClampNeg := fun l hl e => by rw [e]; exact (nI_clamp (by omega)).symm
    refine ⟨told S (x - 97).toNatClampNeg a, S, sn, Sn, h, Hs, t, n, hO, x_letter hX.1 hO (fun l _ hl e => ⟨?_, hX⟩) (fun z => by rw [hx] at z; cases z), y_letter hY hO (fun l M' _ hl e hY' => ⟨?_, hY'⟩) (fun z => by rw [hx] at z; cases z)⟩
    · rw [← key l hl e]
    · rw [← key l hl e]
theorem j_join (hI : INV M1 M2) (x y a : Int32) : BOTH (wX8_join M1 x y a) (wX9_join M2 x y a) := by
  obtain ⟨S, sn, Sn, h, Hs, t, n, hO, hX, hY⟩ := hI
  by_cases hxy : isL x = true ∧ isL y = true
  · have key : ∀ z : Int32, ∀ l, l < 26 → z - 97 = nI l → l = (z - 97).toNatClampNeg := fun z l hl e => by rw [e]; exact (nI_clamp (by omega)).symm
    refine ⟨told S (jn (x - 97).toNatClampNeg (y - 97).toNatClampNeg) a, S, sn, Sn, h, Hs, t, n, hO, x_join hX.1 hO (fun l m _ _ hl hm e1 e2 => ⟨?_, hX⟩) (fun z => absurd hxy z), y_join hY hO (fun l m M' _ _ hl hm e1 e2 hY' => ⟨?_, hY'⟩) (fun z => absurd hxy z)⟩
    · rw [← key x l hl e1, ← key y m hm e2]
    · rw [← key x l hl e1, ← key y m hm e2]
  · exact ⟨-1, S, sn, Sn, h, Hs, t, n, hO, x_join hX.1 hO (fun l m z1 z2 => absurd ⟨z1, z2⟩ hxy) (fun _ => ⟨rfl, hX⟩), y_join hY hO (fun l m M' z1 z2 => absurd ⟨z1, z2⟩ hxy) (fun _ => ⟨rfl, hY⟩)⟩
theorem j_word (hI : INV M1 M2) (a b : Int32) : BOTH (wX8_word M1 a b) (wX9_word M2 a b) := by
  obtain ⟨S, sn, Sn, h, Hs, t, n, hO, hX, hY⟩ := hI
  rcases ix_of hO a with hb | ⟨w, hw, rfl⟩
  · exact ⟨-1, S, sn, Sn, h, Hs, t, n, hO, x_word_bad hX.1 hO hb ⟨rfl, hX⟩, y_word_bad hY hO hb ⟨rfl, hY⟩⟩
  · exact ⟨wrdR S w b, S, sn, Sn, h, Hs, t, n, hO, x_word hX hO hw (fun M' hX' => ⟨rfl, hX'⟩), y_word hY hO hw (fun M' hY' => ⟨rfl, hY'⟩)⟩
theorem j_letterOf (hI : INV M1 M2) (a b : Int32) : BOTH (wX8_letterOf M1 a b) (wX9_letterOf M2 a b) := by
  obtain ⟨S, sn, Sn, h, Hs, t, n, hO, hX, hY⟩ := hI
  rcases ix_of hO a with hb | ⟨w, hw, rfl⟩
  · exact ⟨-1, S, sn, Sn, h, Hs, t, n, hO, x_lto_bad hX.1 hO hb ⟨rfl, hX⟩, y_lto_bad hY hO hb ⟨rfl, hY⟩⟩
  · exact ⟨ltoR S w b, S, sn, Sn, h, Hs, t, n, hO, x_lto hX.1 hO hw ⟨rfl, hX⟩, y_lto hY hO hw ⟨rfl, hY⟩⟩
theorem j_sheet (hI : INV M1 M2) (a b c : Int32) : BOTH (wX8_sheet M1 a b c) (wX9_sheet M2 a b c) := by
  obtain ⟨S, sn, Sn, h, Hs, t, n, hO, hX, hY⟩ := hI
  by_cases hbad : ¬ lnOk a ∨ b < 0 ∨ c < 0 ∨ ¬ c ≤ 1
  · exact ⟨-2, S, sn, Sn, h, Hs, t, n, hO, x_sheet_bad hbad ⟨rfl, hX⟩, y_sheet_bad hbad ⟨rfl, hY⟩⟩
  · have ha : lnOk a := Classical.byContradiction fun z => hbad (Or.inl z)
    have hb : ¬ b < 0 := fun z => hbad (Or.inr (Or.inl z))
    have hc : ¬ c < 0 := fun z => hbad (Or.inr (Or.inr (Or.inl z)))
    have hc1 : c ≤ 1 := Classical.byContradiction fun z => hbad (Or.inr (Or.inr (Or.inr z)))
    obtain ⟨k, h1, h10, rfl⟩ := lnOk_nI ha
    exact ⟨shtR S k b c, S, sn, Sn, h, Hs, t, n, hO, x_sheet hX hO ha h10 hb hc hc1 (fun M' hX' => ⟨rfl, hX'⟩), y_sheet hY hO ha h10 hb hc hc1 (fun M' hY' => ⟨rfl, hY'⟩)⟩
theorem j_covers (hI : INV M1 M2) (a c : Int32) : BOTH (wX8_covers M1 a c) (wX9_covers M2 a c) := by
  obtain ⟨S, sn, Sn, h, Hs, t, n, hO, hX, hY⟩ := hI
  by_cases hbad : ¬ lnOk a ∨ c < 0 ∨ ¬ c ≤ 4
  · exact ⟨-2, S, sn, Sn, h, Hs, t, n, hO, x_cov_bad hbad ⟨rfl, hX⟩, y_cov_bad hbad ⟨rfl, hY⟩⟩
  · have ha : lnOk a := Classical.byContradiction fun z => hbad (Or.inl z)
    have hc : ¬ c < 0 := fun z => hbad (Or.inr (Or.inl z))
    have hc1 : c ≤ 4 := Classical.byContradiction fun z => hbad (Or.inr (Or.inr z))
    obtain ⟨k, h1, h10, rfl⟩ := lnOk_nI ha
    exact ⟨covR S k c, S, sn, Sn, h, Hs, t, n, hO, x_cov hX hO ha h10 hc hc1 (fun M' hX' => ⟨rfl, hX'⟩), y_cov hY hO ha h10 hc hc1 (fun M' hY' => ⟨rfl, hY'⟩)⟩
theorem j_worst (hI : INV M1 M2) (a b : Int32) : BOTH (wX8_worst M1 a b) (wX9_worst M2 a b) := by
  obtain ⟨S, sn, Sn, h, Hs, t, n, hO, hX, hY⟩ := hI
  by_cases hb : 0 ≤ b
  · obtain ⟨r, hr, rfl⟩ := nI_of (fun z => absurd hb (Int32.not_le.mpr z) : ¬ b < 0)
    exact ⟨oS (paA a) (wstF S (paA a) (paB a) 99 r), S, sn, Sn, h, Hs, t, n, hO, x_worst hX hO hr (fun M' hX' => ⟨rfl, hX'⟩), y_worst hY hO hr ⟨rfl, hY⟩⟩
  · exact ⟨-2, S, sn, Sn, h, Hs, t, n, hO, x_worst_bad hb ⟨rfl, hX⟩, y_worst_bad hb ⟨rfl, hY⟩⟩
theorem j_missing (hI : INV M1 M2) (a : Int32) : BOTH (wX8_missing M1 a) (wX9_missing M2 a) := by
  obtain ⟨S, sn, Sn, h, Hs, t, n, hO, hX, hY⟩ := hI
  exact ⟨nI (misN S (paA a) (paB a)), S, sn, Sn, h, Hs, t, n, hO, x_missing hX.1 hO ⟨rfl, hX⟩, y_missing hY hO (fun M' hY' => ⟨rfl, hY'⟩)⟩
theorem j_sheetsTo (hI : INV M1 M2) (a c : Int32) : BOTH (wX8_sheetsTo M1 a c) (wX9_sheetsTo M2 a c) := by
  obtain ⟨S, sn, Sn, h, Hs, t, n, hO, hX, hY⟩ := hI
  by_cases hbad : ¬ lnOk a ∨ c < 0 ∨ ¬ c ≤ 99
  · exact ⟨-2, S, sn, Sn, h, Hs, t, n, hO, x_to_bad hbad ⟨rfl, hX⟩, y_to_bad hbad ⟨rfl, hY⟩⟩
  · have ha : lnOk a := Classical.byContradiction fun z => hbad (Or.inl z)
    have hc : ¬ c < 0 := fun z => hbad (Or.inr (Or.inl z))
    have hc1 : c ≤ 99 := Classical.byContradiction fun z => hbad (Or.inr (Or.inr z))
    obtain ⟨k, h1, h10, rfl⟩ := lnOk_nI ha
    obtain ⟨d, hd, rfl⟩ := nI_of hc
    have hd9 : d ≤ 99 := by
      rcases Nat.lt_or_ge 99 d with z | z
      · exact absurd hc1 (nI_ge (a := 99) (b := d) z hd)
      · exact z
    exact ⟨stF k d 21 0 S, S, sn, Sn, h, Hs, t, n, hO, x_to hX hO ha h10 hd9 (fun M' hX' => ⟨rfl, hX'⟩), y_to hY hO ha h10 hd9 (fun M' hY' => ⟨rfl, hY'⟩)⟩
theorem j_count (hI : INV M1 M2) (a : Int32) : BOTH (wX8_count M1 a) (wX9_count M2 a) := by
  obtain ⟨S, sn, Sn, h, Hs, t, n, hO, hX, hY⟩ := hI
  exact ⟨couR S h n a, S, sn, Sn, h, Hs, t, n, hO, x_count hX hO ⟨rfl, hX⟩, y_count hY hO ⟨rfl, hY⟩⟩
end JT
