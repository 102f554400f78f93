/-! ===== LAYER 2: pure helpers ===== -/
/-- a counted loop: fuel f, place i -/
theorem p_loop (P : Nat → Nat → Prop) (n : Nat) (h0 : ∀ f, P (f + 1) n) (hs : ∀ f i, i < n → P f (i + 1) → P (f + 1) i) : ∀ d i, i + d = n → P (d + 1) i := by
  intro d
  induction d with
  | zero => intro i h; obtain rfl : i = n := by omega
            exact h0 0
  | succ d ih => intro i h; exact hs (d + 1) i (by omega) (ih (i + 1) (by omega))
theorem p_loop0 (P : Nat → Nat → Prop) (n : Nat) (h0 : ∀ f, P (f + 1) n) (hs : ∀ f i, i < n → P f (i + 1) → P (f + 1) i) : P (n + 1) 0 := p_loop P n h0 hs n 0 (by omega)
def sumTo (g : Nat → Nat) : Nat → Nat
  | 0 => 0
  | n + 1 => sumTo g n + g n
def maxTo (g : Nat → Nat) : Nat → Nat
  | 0 => 0
  | n + 1 => if maxTo g n < g n then g n else maxTo g n
theorem sumTo_le {g : Nat → Nat} {b : Nat} : ∀ n, (∀ k, k < n → g k ≤ b) → sumTo g n ≤ n * b
  | 0, _ => by simp [sumTo]
  | n + 1, h => by
    have h1 := sumTo_le n (fun k hk => h k (by omega))
    have h2 := h n (by omega)
    have e : (n + 1) * b = n * b + b := Nat.succ_mul n b
    simp only [sumTo]; omega
theorem maxTo_le {g : Nat → Nat} {b : Nat} : ∀ n, (∀ k, k < n → g k ≤ b) → maxTo g n ≤ b
  | 0, _ => by simp [maxTo]
  | n + 1, h => by
    have h1 := maxTo_le n (fun k hk => h k (by omega))
    have h2 := h n (by omega)
    simp only [maxTo]; split <;> omega
theorem sumTo_congr {g h : Nat → Nat} : ∀ n, (∀ k, k < n → g k = h k) → sumTo g n = sumTo h n
  | 0, _ => rfl
  | n + 1, e => by simp only [sumTo]; rw [sumTo_congr n (fun k hk => e k (by omega)), e n (by omega)]
theorem maxTo_congr {g h : Nat → Nat} : ∀ n, (∀ k, k < n → g k = h k) → maxTo g n = maxTo h n
  | 0, _ => rfl
  | n + 1, e => by simp only [maxTo]; rw [maxTo_congr n (fun k hk => e k (by omega)), e n (by omega)]
theorem nI_add1 (n : Nat) : nI n + (1 : Int32) = nI (n + 1) := nI_1 n
theorem nI_ne_neg {n : Nat} (h : n < 2 ^ 31) {x : Int32} (hx : x < 0) : ¬ nI n = x := by
  intro e; rw [← e] at hx; exact nI_pos h hx
theorem gU_at (M : gW) (f k : Nat) (r : Nat → Int32) (f' k' : Nat) : gU M f k r f' k' = if f' = f ∧ k' = k then r else M f' k' := rfl
theorem upd_at (g : Nat → Int32) (k : Nat) (x : Int32) (j : Nat) : upd g k x j = if j = k then x else g j := rfl
/-- a store into the same family -/
theorem gU_f {M : gW} {f k k' j : Nat} {r : Nat → Int32} : gU M f k r f k' j = if k' = k then r j else M f k' j := by
  by_cases h : k' = k
  · subst h; rw [gU_same, if_pos rfl]
  · rw [gU_ne (fun z => h z.2), if_neg h]
/-- a store into another family -/
theorem gU_o {M : gW} {f f' k k' : Nat} {r : Nat → Int32} (h : f' ≠ f) : gU M f k r f' k' = M f' k' := gU_ne (fun z => h z.1)
theorem cpy_lt {f g : Nat → Int32} {n j : Nat} (h : j < n) : va_cpy f g 0 0 n j = f j := by
  unfold va_cpy; rw [if_pos (by omega)]; congr 1; omega
theorem div_nd {s t : Nat} (h : s ≤ t) : 100 * s / (t + 2) ≤ 99 := by
  have : 100 * s / (t + 2) < 100 := by
    apply Nat.div_lt_of_lt_mul; omega
  omega
/-! ===== the state: one row S of 1730 ints, as the reference has it ===== -/
abbrev gR : Type := Nat → Int32
def sN (S : gR) : Nat := (S 5).toNatClampNeg
def sL (S : gR) (w : Nat) : Nat := (S (1410 + 16 * w)).toNatClampNeg
def sC (S : gR) (w j : Nat) : Nat := (S (1410 + 16 * w + 1 + j)).toNatClampNeg
def sT (S : gR) (p : Nat) : Nat := (S (6 + p)).toNatClampNeg
def sS (S : gR) (p : Nat) : Nat := (S (708 + p)).toNatClampNeg
def nd (S : gR) (p : Nat) : Nat := 100 * sS S p / (sT S p + 2)
def OkP (S : gR) : Prop := ∀ p, p < 702 → S (6 + p) = nI (sT S p) ∧ S (708 + p) = nI (sS S p) ∧ sS S p ≤ sT S p ∧ sT S p ≤ 9999
def OkW (S : gR) (w : Nat) : Prop := S (1410 + 16 * w) = nI (sL S w) ∧ 1 ≤ sL S w ∧ sL S w ≤ 15 ∧ ∀ j, j < sL S w → S (1410 + 16 * w + 1 + j) = nI (sC S w j) ∧ sC S w j < 26
def Ok (S : gR) : Prop := OkP S ∧ (S 5 = nI (sN S) ∧ sN S ≤ 20) ∧ (∀ w, w < sN S → OkW S w) ∧ (∃ u, S 0 = nI u ∧ u ≤ 99) ∧ ∃ u, S 1 = nI u ∧ u ≤ 999
theorem nd_le {S : gR} (h : OkP S) {p : Nat} (hp : p < 702) : nd S p ≤ 99 := div_nd (h p hp).2.2.1
/-! parts -/
def addP (l : List Nat) (p : Nat) : List Nat := if p ∈ l then l else l ++ [p]
def jn (a b : Nat) : Nat := 26 + 26 * a + b
def ptF (c : Nat → Nat) : Nat → List Nat
  | 0 => []
  | j + 1 => if j = 0 then addP (ptF c j) (c j) else addP (addP (ptF c j) (c j)) (jn (c (j - 1)) (c j))
def sPt (S : gR) (w : Nat) : List Nat := ptF (sC S w) (sL S w)
theorem addP_len (l : List Nat) (p : Nat) : (addP l p).length ≤ l.length + 1 := by
  unfold addP; split
  · omega
  · rw [List.length_append]; simp
theorem addP_ge (l : List Nat) (p : Nat) : l.length ≤ (addP l p).length := by
  unfold addP; split
  · omega
  · rw [List.length_append]; omega
theorem addP_lt {l : List Nat} {p N : Nat} (h : ∀ q ∈ l, q < N) (hp : p < N) : ∀ q ∈ addP l p, q < N := by
  unfold addP; split
  · exact h
  · intro q hq
    rcases List.mem_append.mp hq with h1 | h1
    · exact h q h1
    · rw [List.mem_singleton.mp h1]; exact hp
theorem ptF_len (c : Nat → Nat) : ∀ j, (ptF c j).length ≤ 2 * j - 1
  | 0 => by simp [ptF]
  | j + 1 => by
    have h := ptF_len c j
    simp only [ptF]
    split
    · rename_i hj; have := addP_len (ptF c j) (c j); omega
    · have := addP_len (ptF c j) (c j); have := addP_len (addP (ptF c j) (c j)) (jn (c (j - 1)) (c j)); omega
theorem jn_lt {a b : Nat} (ha : a < 26) (hb : b < 26) : jn a b < 702 := by unfold jn; omega
theorem ptF_lt {c : Nat → Nat} : ∀ j, (∀ i, i < j → c i < 26) → ∀ q ∈ ptF c j, q < 702
  | 0, _ => by simp [ptF]
  | j + 1, h => by
    have h1 := ptF_lt j (fun i hi => h i (by omega))
    have hj := h j (by omega)
    simp only [ptF]
    split
    · exact addP_lt h1 (by omega)
    · exact addP_lt (addP_lt h1 (by omega)) (jn_lt (h (j - 1) (by omega)) hj)
theorem ptF_congr {c d : Nat → Nat} : ∀ j, (∀ i, i < j → c i = d i) → ptF c j = ptF d j
  | 0, _ => rfl
  | j + 1, h => by
    simp only [ptF]
    rw [ptF_congr j (fun i hi => h i (by omega)), h j (by omega)]
    by_cases hj : j = 0
    · rw [if_pos hj, if_pos hj]
    · rw [if_neg hj, if_neg hj, h (j - 1) (by omega)]
theorem getD_lt {l : List Nat} {N i : Nat} (h : ∀ q ∈ l, q < N) (hi : i < l.length) : l.getD i 0 < N := by
  rw [List.getD_eq_getElem?_getD, List.getElem?_eq_getElem hi]
  exact h _ (List.getElem_mem hi)
theorem getD_app {l : List Nat} {p i : Nat} (hi : i < l.length) : (l ++ [p]).getD i 0 = l.getD i 0 := by
  rw [List.getD_eq_getElem?_getD, List.getD_eq_getElem?_getD, List.getElem?_append_left hi]
theorem getD_last {l : List Nat} {p : Nat} : (l ++ [p]).getD l.length 0 = p := by
  rw [List.getD_eq_getElem?_getD, List.getElem?_append_right (Nat.le_refl _), Nat.sub_self]; rfl
theorem mem_iff_getD {l : List Nat} {p : Nat} : p ∈ l ↔ ∃ i, i < l.length ∧ l.getD i 0 = p := by
  constructor
  · intro h
    obtain ⟨i, hi, e⟩ := List.mem_iff_getElem.mp h
    exact ⟨i, hi, by rw [List.getD_eq_getElem?_getD, List.getElem?_eq_getElem hi]; exact e⟩
  · rintro ⟨i, hi, e⟩
    rw [List.getD_eq_getElem?_getD, List.getElem?_eq_getElem hi] at e
    exact List.mem_iff_getElem.mpr ⟨i, hi, e⟩
/-! ===== what the class's cells hold ===== -/
/-- the practice of number j has the tries and slips of S -/
def PR (M : gW) (j : Nat) (S : gR) : Prop := ∀ p, p < 702 → M 3 j p = S (6 + p) ∧ M 4 j p = S (708 + p)
/-- the word cell q holds the first n letters of c, with its parts -/
def WR (M : gW) (q : Nat) (c : Nat → Nat) (n : Nat) : Prop := M 7 q 2 = nI n ∧ (∀ j, j < n → M 8 q j = nI (c j)) ∧ M 7 q 3 = nI (ptF c n).length ∧ ∀ i, i < (ptF c n).length → M 9 q i = nI ((ptF c n).getD i 0)
/-- the word list of number j -/
def LR (M : gW) (j : Nat) (S : gR) : Prop := M 5 j 1 = S 5 ∧ ∀ w, w < sN S → WR M (20 * j + w) (sC S w) (sL S w)
/-- the state of number j -/
def CR (M : gW) (j : Nat) (S : gR) : Prop := PR M j S ∧ LR M j S ∧ M 1 j 2 = S 1 ∧ M 1 j 3 = S 0 ∧ M 1 j 4 = S 2 ∧ M 1 j 5 = S 3 ∧ M 1 j 6 = S 4
