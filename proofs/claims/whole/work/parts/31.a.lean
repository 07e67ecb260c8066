/-! (B) cuts: runs and copies -/
def rnN (c : Nat → Int32) (i : Nat) : Nat := (fnd (fun n => decide (c (i + n) ≠ c i)) (15 - i) 1).getD (16 - i)
def cpN (c : Nat → Int32) (i d : Nat) : Nat := (fnd (fun n => decide (c (i + n) ≠ c (i + n - d))) (if 16 - i < 8 then 16 - i else 8) 0).getD (if 16 - i < 8 then 16 - i else 8)
def mcN (c : Nat → Int32) (i : Nat) : Nat := itr (fun d b => if b < cpN c i d then cpN c i d else b) (i - 1) 2 0
theorem rn_b {c : Nat → Int32} {i : Nat} (hi : i < 16) : 1 ≤ rnN c i ∧ i + rnN c i ≤ 16 := by
  unfold rnN
  cases e : fnd (fun n => decide (c (i + n) ≠ c i)) (15 - i) 1 with
  | none => show 1 ≤ 16 - i ∧ i + (16 - i) ≤ 16; omega
  | some n =>
    have := fnd_some e
    show 1 ≤ n ∧ i + n ≤ 16
    omega
theorem cp_b {c : Nat → Int32} {i d : Nat} (hi : i < 16) : cpN c i d ≤ 8 ∧ i + cpN c i d ≤ 16 := by
  unfold cpN
  cases e : fnd (fun n => decide (c (i + n) ≠ c (i + n - d))) (if 16 - i < 8 then 16 - i else 8) 0 with
  | none => show (if 16 - i < 8 then 16 - i else 8) ≤ 8 ∧ i + (if 16 - i < 8 then 16 - i else 8) ≤ 16; split <;> omega
  | some n =>
    have := (fnd_some e).2.1
    show n ≤ 8 ∧ i + n ≤ 16
    split at this <;> omega
theorem mc_sp {c : Nat → Int32} {i : Nat} : (mcN c i = 0 ∨ ∃ d, 2 ≤ d ∧ d ≤ i ∧ mcN c i = cpN c i d) ∧ ∀ d, 2 ≤ d → d ≤ i → cpN c i d ≤ mcN c i := by
  by_cases h : i < 2
  · have : mcN c i = 0 := by
      unfold mcN
      rw [show i - 1 = 0 by omega]
      rfl
    exact ⟨Or.inl this, fun d h1 h2 => by omega⟩
  · have := itr_inv (st := fun d b => if b < cpN c i d then cpN c i d else b) (Q := fun z b => (b = 0 ∨ ∃ d, 2 ≤ d ∧ d < z ∧ b = cpN c i d) ∧ (∀ d, 2 ≤ d → d < z → cpN c i d ≤ b) ∧ 2 ≤ z) (m := i + 1) (fun z b hz hq => by
      obtain ⟨q1, q2, q3⟩ := hq
      by_cases e : b < cpN c i z
      · rw [if_pos e]
        refine ⟨Or.inr ⟨z, q3, by omega, rfl⟩, fun d h1 h2 => ?_, by omega⟩
        by_cases g : d = z
        · subst g; exact Nat.le_refl _
        · have := q2 d h1 (by omega); omega
      · rw [if_neg e]
        refine ⟨?_, fun d h1 h2 => ?_, by omega⟩
        · rcases q1 with q | ⟨d, a, b, c⟩
          · exact Or.inl q
          · exact Or.inr ⟨d, a, by omega, c⟩
        · by_cases g : d = z
          · subst g; omega
          · exact q2 d h1 (by omega)) (i - 1) 2 0 (by omega) ⟨Or.inl rfl, fun d h1 h2 => by omega, by omega⟩
    obtain ⟨q1, q2, -⟩ := this
    refine ⟨?_, fun d h1 h2 => q2 d h1 (by omega)⟩
    rcases q1 with q | ⟨d, a, b, c⟩
    · exact Or.inl q
    · exact Or.inr ⟨d, a, by omega, c⟩
theorem mc_b {c : Nat → Int32} {i : Nat} (hi : i < 16) : mcN c i ≤ 8 ∧ i + mcN c i ≤ 16 := by
  rcases (mc_sp (c := c) (i := i)).1 with h | ⟨d, h1, h2, h3⟩
  · omega
  · rw [h3]; exact cp_b hi
section RC
variable {d C : Pic} {c : Nat → Int32} {i : Nat}
theorem m_run (h : ∀ j, j < 16 → d.2 33 j = c j) (hi : i < 16) : f_X9_runAt d (nI i) = some (nI (rnN c i)) := by
  have key := loop_fn (L := L_X9_runAt_2 d (nI i)) (fin := fun o => some (nI (o.getD (16 - i)))) (P := fun n => decide (c (i + n) ≠ c i)) (m := 16 - i) (fun n => ?_) (fun n k hk => ?_) (15 - i) 1 FU (by omega) (FU_ge (by omega))
  · exact key
  · show b_X9_runAt_2 d (nI i) _ (nI (16 - i)) = _
    unfold b_X9_runAt_2
    rw [nI_add, li 16, if_pos (nI_le (by omega) (by omega))]
    rfl
  · show b_X9_runAt_2 d (nI i) _ (nI k) = _
    unfold b_X9_runAt_2
    rw [nI_add, li 16, if_neg (nI_ge (by omega) (by omega)), rA_n (by omega) (by decide), bs, rA_n (by omega) (by decide), bs, h _ (by omega), h _ hi, nI_1]
    by_cases e : c (i + k) = c i
    · rw [if_pos e, if_neg (by simpa using e)]
    · rw [if_neg e, if_pos (by simpa using e)]
      rfl
theorem x_run (h : ∀ j, j < 16 → C.2 0 j = c j) (hi : i < 16) : f_X1_alikeFrom C (nI i) = some (nI (rnN c i)) := by
  have hb := rn_b (c := c) hi
  have key := loop_fn (L := fun n v => L_X1_alikeFrom_4 C (nI i) n (nI i + v)) (fin := fun o => some (nI (i + o.getD (16 - i)) - nI i)) (P := fun n => decide (c (i + n) ≠ c i)) (m := 16 - i) (fun n => ?_) (fun n k hk => ?_) (15 - i) 1 FU (by omega) (FU_ge (by omega))
  · unfold f_X1_alikeFrom
    have e : some (nI (i + rnN c i) - nI i) = some (nI (rnN c i)) := by
      rw [nI_sub (by omega)]
      exact congrArg (fun t => some (nI t)) (by omega)
    exact key.trans e
  · show b_X1_alikeFrom_4 C (nI i) _ (nI i + nI (16 - i)) = _
    unfold b_X1_alikeFrom_4
    rw [nI_add, li 16, if_pos (nI_le (by omega) (by omega))]
    rfl
  · show b_X1_alikeFrom_4 C (nI i) (L_X1_alikeFrom_4 C (nI i) n) (nI i + nI k) = _
    unfold b_X1_alikeFrom_4
    rw [nI_add, li 16, if_neg (nI_ge (by omega) (by omega)), rA_n (by omega) (by decide), bs, rA_n (by omega) (by decide), bs, h _ (by omega), h _ hi, nI_1, nI_add]
    by_cases e : c (i + k) = c i
    · rw [if_pos e, if_neg (by simpa using e)]
      rfl
    · rw [if_neg e, if_pos (by simpa using e)]
      rfl
theorem x_cp {q : Nat} (h : ∀ j, j < 16 → C.2 0 j = c j) (hi : i < 16) (hq : q ≤ i) (hq2 : 2 ≤ q) : f_X1_copiedFrom C (nI i) (nI q) = some (nI (cpN c i q)) := by
  have key := loop_fn (L := L_X1_copiedFrom_2 C (nI i) (nI q)) (fin := fun o => some (nI (o.getD (if 16 - i < 8 then 16 - i else 8)))) (P := fun n => decide (c (i + n) ≠ c (i + n - q))) (m := if 16 - i < 8 then 16 - i else 8) (fun n => ?_) (fun n k hk => ?_) (if 16 - i < 8 then 16 - i else 8) 0 FU (by omega) (FU_ge (by split <;> omega))
  · exact key
  · show b_X1_copiedFrom_2 C (nI i) (nI q) _ (nI _) = _
    unfold b_X1_copiedFrom_2
    by_cases e : 16 - i < 8
    · rw [if_pos e, li 8, if_neg (nI_ge (by omega) (by omega)), nI_add, li 16, if_pos (nI_le (by omega) (by omega))]
      rfl
    · rw [if_neg e, li 8, if_pos (nI_le (by omega) (by omega))]
      rfl
  · have hk8 : k < 8 ∧ i + k < 16 := by split at hk <;> omega
    show b_X1_copiedFrom_2 C (nI i) (nI q) _ (nI k) = _
    unfold b_X1_copiedFrom_2
    rw [li 8, if_neg (nI_ge hk8.1 (by omega)), nI_add, li 16, if_neg (nI_ge hk8.2 (by omega)), rA_n hk8.2 (by decide), bs, nI_sub (by omega), rA_n (by omega) (by decide), bs, h _ (by omega), h _ (by omega), nI_1]
    by_cases e : c (i + k) = c (i + k - q)
    · rw [if_pos e, if_neg (by simpa using e)]
    · rw [if_neg e, if_pos (by simpa using e)]
      rfl
theorem m_cp {q : Nat} (h : ∀ j, j < 16 → d.2 33 j = c j) (hi : i < 16) (hq : q < 16) (hq2 : 2 ≤ q) : f_X9_copyAt d (nI i) (nI q) = some (nI (if q ≤ i then cpN c i q else 0)) := by
  by_cases hqi : q ≤ i
  · rw [if_pos hqi]
    have key := loop_fn (L := L_X9_copyAt_2 d (nI i) (nI q)) (fin := fun o => some (nI (o.getD (if 16 - i < 8 then 16 - i else 8)))) (P := fun n => decide (c (i + n) ≠ c (i + n - q))) (m := if 16 - i < 8 then 16 - i else 8) (fun n => ?_) (fun n k hk => ?_) (if 16 - i < 8 then 16 - i else 8) 0 FU (by omega) (FU_ge (by split <;> omega))
    · exact key
    · show b_X9_copyAt_2 d (nI i) (nI q) _ (nI _) = _
      unfold b_X9_copyAt_2
      by_cases e : 16 - i < 8
      · rw [if_pos e, li 8, if_neg (nI_ge (by omega) (by omega)), if_neg (nI_nlt hqi (by omega)), nI_add, li 16, if_pos (nI_le (by omega) (by omega))]
        rfl
      · rw [if_neg e, li 8, if_pos (nI_le (by omega) (by omega))]
        rfl
    · have hk8 : k < 8 ∧ i + k < 16 := by split at hk <;> omega
      show b_X9_copyAt_2 d (nI i) (nI q) _ (nI k) = _
      unfold b_X9_copyAt_2
      rw [li 8, if_neg (nI_ge hk8.1 (by omega)), if_neg (nI_nlt hqi (by omega)), nI_add, li 16, if_neg (nI_ge hk8.2 (by omega)), rA_n hk8.2 (by decide), bs, nI_sub (by omega), rA_n (by omega) (by decide), bs, h _ (by omega), h _ (by omega), nI_1]
      by_cases e : c (i + k) = c (i + k - q)
      · rw [if_pos e, if_neg (by simpa using e)]
      · rw [if_neg e, if_pos (by simpa using e)]
        rfl
  · rw [if_neg hqi]
    show b_X9_copyAt_2 d (nI i) (nI q) _ (nI 0) = _
    unfold b_X9_copyAt_2
    rw [li 8, if_neg (nI_ge (by omega) (by omega)), if_pos (nI_lt (by omega) (by omega))]
theorem x_mc (h : ∀ j, j < 16 → C.2 0 j = c j) (hi : i < 16) : f_X1_longestCopy C (nI i) = some (nI (mcN c i)) := by
  by_cases h2 : i < 2
  · show b_X1_longestCopy_4 C (nI i) _ (nI 0) (nI 2) = _
    unfold b_X1_longestCopy_4
    rw [if_pos (nI_lt h2 (by omega))]
    unfold mcN
    rw [show i - 1 = 0 by omega]
    rfl
  · have key := (loop_it (enc := nI) (L := fun n b v => L_X1_longestCopy_4 C (nI i) n b (2 + v)) (fin := fun b => some (nI b)) (st := fun k b => if b < cpN c i (2 + k) then cpN c i (2 + k) else b) (I := fun b => b ≤ 8) (m := i - 1) (fun n b _ => ?_) (fun n b k hk hb => ⟨?_, ?_⟩) (i - 1) 0 FU 0 (by omega) (FU_ge (by omega)) (by omega)).1
    · have sh : ∀ (k z b : Nat), itr (fun k b => if b < cpN c i (2 + k) then cpN c i (2 + k) else b) k z b = itr (fun d b => if b < cpN c i d then cpN c i d else b) k (2 + z) b := by
        intro k
        induction k with
        | zero => intro z b; rfl
        | succ k ih => intro z b; exact ih (z + 1) _
      unfold mcN
      rw [← sh (i - 1) 0 0]
      exact key
    · show b_X1_longestCopy_4 C (nI i) _ (nI b) (2 + nI (i - 1)) = _
      unfold b_X1_longestCopy_4
      rw [li 2, nI_add, if_pos (nI_lt (by omega) (by omega))]
    · show b_X1_longestCopy_4 C (nI i) (L_X1_longestCopy_4 C (nI i) n) (nI b) (2 + nI k) = _
      unfold b_X1_longestCopy_4
      have := cp_b (c := c) (d := 2 + k) hi
      rw [li 2, nI_add, if_neg (nI_nlt (by omega) (by omega)), x_cp h hi (by omega) (by omega), bs, nI_1, nI_add]
      by_cases e : b < cpN c i (2 + k)
      · rw [if_pos (nI_lt e (by omega)), if_pos e]
        rfl
      · rw [if_neg (nI_nlt (by omega) (by omega)), if_neg e]
        rfl
    · have := cp_b (c := c) (d := 2 + k) hi
      split <;> omega
end RC
