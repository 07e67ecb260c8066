/-! (B) cuts: what the rest costs at least -/
def lcN (r m n : Nat) : Nat := if 2 ≤ n ∧ n ≤ r then 2 else if 2 ≤ n ∧ n ≤ m then 3 else if n ≤ 8 then n + 1 else 99
theorem x_lc {n r m : Nat} (hn : n < 17) (hr : r < 17) (hm : m < 17) : f_X1_leastCost (nI n) (nI r) (nI m) = some (nI (lcN r m n)) := by
  have hB : b_X1_leastCost_24 (nI n) (nI r) (nI m) = some (nI (if n ≤ 8 then n + 1 else 99)) := by
    unfold b_X1_leastCost_24
    by_cases e : n ≤ 8
    · rw [if_pos e, li 8, if_neg (nI_nlt e (by omega)), nI_1]
    · rw [if_neg e, li 8, if_pos (nI_lt (by omega) (by omega))]
      rfl
  have hA : b_X1_leastCost_12 (nI n) (nI r) (nI m) = some (nI (if 2 ≤ n ∧ n ≤ m then 3 else if n ≤ 8 then n + 1 else 99)) := by
    unfold b_X1_leastCost_12
    by_cases e1 : 2 ≤ n
    · rw [li 2, if_neg (nI_nlt e1 (by omega))]
      by_cases e2 : n ≤ m
      · rw [if_neg (nI_nlt e2 (by omega)), if_pos ⟨e1, e2⟩]
        rfl
      · rw [if_pos (nI_lt (by omega) (by omega)), if_neg (fun c => e2 c.2), hB]
    · rw [li 2, if_pos (nI_lt (by omega) (by omega)), if_neg (fun c => e1 c.1), hB]
  unfold f_X1_leastCost lcN
  by_cases e1 : 2 ≤ n
  · rw [li 2, if_neg (nI_nlt e1 (by omega))]
    by_cases e2 : n ≤ r
    · rw [if_neg (nI_nlt e2 (by omega)), if_pos ⟨e1, e2⟩]
    · rw [if_pos (nI_lt (by omega) (by omega)), if_neg (fun c => e2 c.2), hA]
  · rw [li 2, if_pos (nI_lt (by omega) (by omega)), if_neg (fun c => e1 c.1), hA]
def stB (r m : Nat) (T : Nat → Nat × Nat) (i n : Nat) (b : Nat × Nat) : Nat × Nat := if lcN r m n + (T (i + n)).1 < b.1 ∨ (lcN r m n + (T (i + n)).1 = b.1 ∧ 1 + (T (i + n)).2 < b.2) then (lcN r m n + (T (i + n)).1, 1 + (T (i + n)).2) else b
def bsN (r m : Nat) (T : Nat → Nat × Nat) (i : Nat) : Nat × Nat := itr (stB r m T i) (16 - i) 1 (99, 16)
def TN (c : Nat → Int32) : Nat → Nat → Nat × Nat
  | 0 => fun _ => (0, 0)
  | k + 1 => va_up (TN c k) (15 - k) (bsN (rnN c (15 - k)) (mcN c (15 - k)) (TN c k) (15 - k))
def TB (T : Nat → Nat × Nat) (i : Nat) : Prop := ∀ j, i ≤ j → j ≤ 16 → (T j).1 ≤ 2 * (16 - j) ∧ (T j).2 ≤ 16 - j ∧ (j < 16 → 2 ≤ (T j).1) ∧ (j = 16 → T j = (0, 0))
def lx (a b : Nat × Nat) : Prop := a.1 < b.1 ∨ (a.1 = b.1 ∧ a.2 ≤ b.2)
theorem lc_ge {r m n : Nat} (h : 1 ≤ n) : 2 ≤ lcN r m n := by
  unfold lcN
  split
  · omega
  · split
    · omega
    · split <;> omega
theorem bs_sp {r m i : Nat} {T : Nat → Nat × Nat} (hi : i < 16) (hT : TB T (i + 1)) : (∃ n, 1 ≤ n ∧ i + n ≤ 16 ∧ bsN r m T i = (lcN r m n + (T (i + n)).1, 1 + (T (i + n)).2)) ∧ ∀ n, 1 ≤ n → i + n ≤ 16 → lx (bsN r m T i) (lcN r m n + (T (i + n)).1, 1 + (T (i + n)).2) := by
  have := itr_inv (st := stB r m T i) (Q := fun z b => (z = 1 ∧ b = (99, 16)) ∨ (1 < z ∧ (∃ n, 1 ≤ n ∧ n < z ∧ b = (lcN r m n + (T (i + n)).1, 1 + (T (i + n)).2)) ∧ ∀ n, 1 ≤ n → n < z → lx b (lcN r m n + (T (i + n)).1, 1 + (T (i + n)).2))) (m := 17 - i) (fun z b hz hq => by
    right
    unfold stB
    rcases hq with ⟨q1, q2⟩ | ⟨q1, ⟨n, n1, n2, n3⟩, q3⟩
    · subst q1; subst q2
      have t := hT (i + 1) (Nat.le_refl _) (by omega)
      have l : lcN r m 1 = 2 := by
        unfold lcN
        rw [if_neg (by omega), if_neg (by omega), if_pos (by omega)]
      rw [if_pos (by left; rw [l]; show 2 + (T (i + 1)).1 < 99; omega)]
      refine ⟨by omega, ⟨1, by omega, by omega, rfl⟩, fun n h1 h2 => ?_⟩
      have : n = 1 := by omega
      subst this
      exact Or.inr ⟨rfl, Nat.le_refl _⟩
    · by_cases e : lcN r m z + (T (i + z)).1 < b.1 ∨ (lcN r m z + (T (i + z)).1 = b.1 ∧ 1 + (T (i + z)).2 < b.2)
      · rw [if_pos e]
        refine ⟨by omega, ⟨z, by omega, by omega, rfl⟩, fun k h1 h2 => ?_⟩
        by_cases g : k = z
        · subst g; exact Or.inr ⟨rfl, Nat.le_refl _⟩
        · have := q3 k h1 (by omega)
          unfold lx at this ⊢
          dsimp only at this ⊢
          omega
      · rw [if_neg e]
        refine ⟨by omega, ⟨n, n1, by omega, n3⟩, fun k h1 h2 => ?_⟩
        by_cases g : k = z
        · subst g
          unfold lx
          dsimp only
          omega
        · exact q3 k h1 (by omega)) (16 - i) 1 (99, 16) (by omega) (Or.inl ⟨rfl, rfl⟩)
  rcases this with ⟨q1, -⟩ | ⟨q1, ⟨n, n1, n2, n3⟩, q3⟩
  · omega
  · exact ⟨⟨n, n1, by omega, n3⟩, fun k h1 h2 => q3 k h1 (by omega)⟩
theorem bs_b {r m i : Nat} {T : Nat → Nat × Nat} (hi : i < 16) (hT : TB T (i + 1)) : (bsN r m T i).1 ≤ 2 * (16 - i) ∧ (bsN r m T i).2 ≤ 16 - i ∧ 2 ≤ (bsN r m T i).1 := by
  obtain ⟨⟨n, n1, n2, n3⟩, q3⟩ := bs_sp (r := r) (m := m) hi hT
  have t1 := hT (i + 1) (Nat.le_refl _) (by omega)
  have l : lcN r m 1 = 2 := by
    unfold lcN
    rw [if_neg (by omega), if_neg (by omega), if_pos (by omega)]
  have q := q3 1 (by omega) (by omega)
  rw [l] at q
  unfold lx at q
  dsimp only at q
  have tn := hT (i + n) (by omega) n2
  have lg := lc_ge (r := r) (m := m) n1
  rw [n3] at q ⊢
  dsimp only at q ⊢
  refine ⟨by omega, by omega, by omega⟩
theorem TN_b {c : Nat → Int32} : ∀ k, k ≤ 16 → TB (TN c k) (16 - k)
  | 0, _ => by
    intro j h1 h2
    have : j = 16 := by omega
    subst this
    exact ⟨by show 0 ≤ _; omega, by show 0 ≤ _; omega, fun h => by omega, fun _ => rfl⟩
  | k + 1, hk => by
    have ih := TN_b (c := c) k (by omega)
    intro j h1 h2
    show (va_up (TN c k) (15 - k) _ j).1 ≤ _ ∧ _
    by_cases e : j = 15 - k
    · subst e
      have := bs_b (r := rnN c (15 - k)) (m := mcN c (15 - k)) (T := TN c k) (i := 15 - k) (by omega) (by rw [show 15 - k + 1 = 16 - k by omega]; exact ih)
      show (va_up (TN c k) (15 - k) _ (15 - k)).1 ≤ _ ∧ (va_up (TN c k) (15 - k) _ (15 - k)).2 ≤ _ ∧ (_ → 2 ≤ (va_up (TN c k) (15 - k) _ (15 - k)).1) ∧ (_ → va_up (TN c k) (15 - k) _ (15 - k) = _)
      rw [vu_s]
      exact ⟨this.1, this.2.1, fun _ => this.2.2, fun h => by omega⟩
    · show (va_up (TN c k) (15 - k) _ j).1 ≤ _ ∧ (va_up (TN c k) (15 - k) _ j).2 ≤ _ ∧ (_ → 2 ≤ (va_up (TN c k) (15 - k) _ j).1) ∧ (_ → va_up (TN c k) (15 - k) _ j = _)
      rw [vu_n e]
      exact ih j (by omega) h2
theorem TN_st {c : Nat → Int32} {j : Nat} : ∀ (n k : Nat), 16 - k ≤ j → j ≤ 16 → k + n ≤ 16 → TN c (k + n) j = TN c k j
  | 0, _, _, _, _ => rfl
  | n + 1, k, h1, h2, h3 => by
    show va_up (TN c (k + n)) (15 - (k + n)) _ j = _
    rw [vu_n (by omega)]
    exact TN_st n k h1 h2 (by omega)
def TT (c : Nat → Int32) : Nat → Nat × Nat := TN c 16
theorem TT_st {c : Nat → Int32} {j k : Nat} (h1 : 16 - k ≤ j) (h2 : j ≤ 16) (h3 : k ≤ 16) : TN c k j = TT c j := by
  have := TN_st (c := c) (j := j) (16 - k) k h1 h2 (by omega)
  rw [show k + (16 - k) = 16 by omega] at this
  exact this.symm
theorem TT_b {c : Nat → Int32} : TB (TT c) 0 := TN_b 16 (Nat.le_refl _)
theorem bs_cg {r m i : Nat} {T U : Nat → Nat × Nat} (hi : i < 16) (h : ∀ j, i < j → j ≤ 16 → T j = U j) : bsN r m T i = bsN r m U i := by
  have : ∀ (k z : Nat) (b : Nat × Nat), 0 < z → z + k ≤ 17 - i → itr (stB r m T i) k z b = itr (stB r m U i) k z b := by
    intro k
    induction k with
    | zero => intro z b _ _; rfl
    | succ k ih =>
      intro z b h0 hz
      show itr (stB r m T i) k (z + 1) (stB r m T i z b) = itr (stB r m U i) k (z + 1) (stB r m U i z b)
      have e : stB r m T i z b = stB r m U i z b := by
        unfold stB
        rw [h (i + z) (by omega) (by omega)]
      rw [e]
      exact ih (z + 1) _ (by omega) (by omega)
  exact this (16 - i) 1 (99, 16) (by omega) (by omega)
theorem TT_eq {c : Nat → Int32} {i : Nat} (hi : i < 16) : TT c i = bsN (rnN c i) (mcN c i) (TT c) i := by
  have e : TT c i = TN c (15 - i + 1) i := (TT_st (by omega) (by omega) (by omega)).symm
  rw [e]
  show va_up (TN c (15 - i)) (15 - (15 - i)) _ i = _
  rw [show 15 - (15 - i) = i by omega, vu_s]
  exact bs_cg hi (fun j h1 h2 => TT_st (by omega) h2 (by omega))
