/-! (B) cuts: the class's table -/
theorem up_up {f : Nat → Int32} {i : Nat} {a b : Int32} : upd (upd f i a) i b = upd f i b := by
  funext j
  by_cases e : j = i
  · subst e; rw [up_s, up_s]
  · rw [up_n e, up_n e, up_n e]
theorem cpA_n {p q : Pic} {k n k0 n0 a b l : Nat} (h1 : a + l ≤ n0) (h2 : b + l ≤ n) (h3 : n0 < 2 ^ 31) (h4 : n < 2 ^ 31) : ∃ p', cpA p k n q k0 n0 (nI a) (nI b) (nI l) = some p' ∧ p'.1 = p.1 ∧ (∀ j, p'.2 k j = if b ≤ j ∧ j < b + l then q.2 k0 (a + (j - b)) else p.2 k j) ∧ ∀ r, r ≠ k → p'.2 r = p.2 r := by
  unfold cpA
  rw [nI_clamp (by omega), nI_clamp (by omega), nI_clamp (by omega), if_neg (by
    rintro (h | h | h | h | h)
    · exact nI_pos (by omega) h
    · exact nI_pos (by omega) h
    · exact nI_pos (by omega) h
    · omega
    · omega)]
  refine ⟨_, rfl, rfl, fun j => ?_, fun r hr => vu_n hr⟩
  show va_up p.2 k _ k j = _
  rw [vu_s]
  rfl
/-- only two tables at one place are other -/
def CA (k1 k2 i : Nat) (C0 C : Pic) (a b : Nat) : Prop := C.1 = C0.1 ∧ (∀ q, q ≠ k1 → q ≠ k2 → C.2 q = C0.2 q) ∧ C.2 k1 = upd (C0.2 k1) i (nI a) ∧ C.2 k2 = upd (C0.2 k2) i (nI b)
section CT
variable {C C0 d : Pic} {c : Nat → Int32} {i r m : Nat} {T : Nat → Nat × Nat}
theorem CA.set {k1 k2 a b : Nat} (a' b' : Nat) (h12 : k1 ≠ k2) (h : CA k1 k2 i C0 C a b) (hi : i < 17) : ∃ C1 C2, wA C k1 17 (nI i) (nI a') = some C1 ∧ wA C1 k2 17 (nI i) (nI b') = some C2 ∧ CA k1 k2 i C0 C2 a' b' := by
  obtain ⟨h1, h2, h3, h4⟩ := h
  obtain ⟨C1, w1, a1, b1, c1⟩ := wA_e (p := C) k1 (nI a') hi (by decide)
  obtain ⟨C2, w2, a2, b2, c2⟩ := wA_e (p := C1) k2 (nI b') hi (by decide)
  refine ⟨C1, C2, w1, w2, a2.trans (a1.trans h1), fun q hq1 hq2 => ?_, ?_, ?_⟩
  · rw [c2 q hq2, c1 q hq1]; exact h2 q hq1 hq2
  · rw [c2 k1 h12, b1, h3, up_up]
  · rw [b2, c1 k2 (fun e => h12 e.symm), h4, up_up]
theorem CA.new {k1 k2 : Nat} (a' b' : Nat) (h12 : k1 ≠ k2) (hi : i < 17) : ∃ C1 C2, wA C0 k1 17 (nI i) (nI a') = some C1 ∧ wA C1 k2 17 (nI i) (nI b') = some C2 ∧ CA k1 k2 i C0 C2 a' b' := by
  obtain ⟨C1, w1, a1, b1, c1⟩ := wA_e (p := C0) k1 (nI a') hi (by decide)
  obtain ⟨C2, w2, a2, b2, c2⟩ := wA_e (p := C1) k2 (nI b') hi (by decide)
  refine ⟨C1, C2, w1, w2, a2.trans a1, fun q hq1 hq2 => ?_, ?_, ?_⟩
  · rw [c2 q hq2, c1 q hq1]
  · rw [c2 k1 h12, b1]
  · rw [b2, c1 k2 (fun e => h12 e.symm)]
theorem lc_le {n : Nat} : lcN r m n ≤ 99 := by
  unfold lcN
  split
  · omega
  · split
    · omega
    · split <;> omega
theorem x_mf (hi : i < 16) (hr : r < 17) (hm : m < 17) (hT : TB T (i + 1)) (h1 : ∀ j, i < j → j ≤ 16 → C0.2 1 j = nI (T j).1 ∧ C0.2 2 j = nI (T j).2) : ∀ (k z n : Nat) (C : Pic) (b : Nat × Nat), z + k = 17 - i → 1 ≤ z → k < n → CA 1 2 i C0 C b.1 b.2 → b.1 ≤ 99 → b.2 ≤ 16 → ∃ C', L_X1_measureFrom_31 (nI i) n C (nI r) (nI m) (nI z) = some C' ∧ CA 1 2 i C0 C' (itr (stB r m T i) k z b).1 (itr (stB r m T i) k z b).2 := by
  intro k
  induction k with
  | zero =>
    intro z n C b hz h1z hn hC _ _
    cases n with
    | zero => omega
    | succ n =>
      refine ⟨C, ?_, hC⟩
      show b_X1_measureFrom_31 (nI i) _ C (nI r) (nI m) (nI z) = _
      unfold b_X1_measureFrom_31
      rw [nI_add, li 16, if_pos (nI_lt (by omega) (by omega))]
  | succ k ih =>
    intro z n C b hz h1z hn hC hb1 hb2
    cases n with
    | zero => omega
    | succ n =>
      have t := h1 (i + z) (by omega) (by omega)
      have tb := hT (i + z) (by omega) (by omega)
      have lc := lc_le (r := r) (m := m) (n := z)
      have e1 : rA C 1 17 (nI (i + z)) = some (nI (T (i + z)).1) := by rw [rA_n (by omega) (by decide), hC.2.2.1, up_n (by omega), t.1]
      have e2 : rA C 2 17 (nI (i + z)) = some (nI (T (i + z)).2) := by rw [rA_n (by omega) (by decide), hC.2.2.2, up_n (by omega), t.2]
      have e3 : rA C 1 17 (nI i) = some (nI b.1) := by rw [rA_n (by omega) (by decide), hC.2.2.1, up_s]
      have e4 : rA C 2 17 (nI i) = some (nI b.2) := by rw [rA_n (by omega) (by decide), hC.2.2.2, up_s]
      show ∃ C', b_X1_measureFrom_31 (nI i) (L_X1_measureFrom_31 (nI i) n) C (nI r) (nI m) (nI z) = some C' ∧ CA 1 2 i C0 C' (itr (stB r m T i) k (z + 1) (stB r m T i z b)).1 (itr (stB r m T i) k (z + 1) (stB r m T i z b)).2
      unfold b_X1_measureFrom_31
      rw [nI_add, li 16, if_neg (nI_nlt (by omega) (by omega)), x_lc (by omega) hr hm, bs, e1, bs, e2, bs, e3, bs, bs, e4, bs, nI_add, li 1, nI_add, nI_add z 1]
      have sw : (lcN r m z + (T (i + z)).1 < b.1 ∨ (lcN r m z + (T (i + z)).1 = b.1 ∧ 1 + (T (i + z)).2 < b.2)) → ∃ C', b_X1_measureFrom_105 (nI i) (L_X1_measureFrom_31 (nI i) n) C (nI r) (nI m) (nI z) (nI (lcN r m z + (T (i + z)).1)) (nI (1 + (T (i + z)).2)) = some C' ∧ CA 1 2 i C0 C' (itr (stB r m T i) k (z + 1) (stB r m T i z b)).1 (itr (stB r m T i) k (z + 1) (stB r m T i z b)).2 := by
        intro hh
        obtain ⟨C1, C2, w1, w2, hC2⟩ := hC.set (lcN r m z + (T (i + z)).1) (1 + (T (i + z)).2) (by decide) (by omega)
        unfold b_X1_measureFrom_105
        rw [w1, bs, w2, bs, nI_1, show stB r m T i z b = (lcN r m z + (T (i + z)).1, 1 + (T (i + z)).2) from if_pos hh]
        exact ih (z + 1) n C2 (lcN r m z + (T (i + z)).1, 1 + (T (i + z)).2) (by omega) (by omega) (by omega) hC2 (by show lcN r m z + (T (i + z)).1 ≤ 99; omega) (by show 1 + (T (i + z)).2 ≤ 16; omega)
      have st : ¬ (lcN r m z + (T (i + z)).1 < b.1 ∨ (lcN r m z + (T (i + z)).1 = b.1 ∧ 1 + (T (i + z)).2 < b.2)) → ∃ C', L_X1_measureFrom_31 (nI i) n C (nI r) (nI m) (nI (z + 1)) = some C' ∧ CA 1 2 i C0 C' (itr (stB r m T i) k (z + 1) (stB r m T i z b)).1 (itr (stB r m T i) k (z + 1) (stB r m T i z b)).2 := by
        intro hh
        rw [show stB r m T i z b = b from if_neg hh]
        exact ih (z + 1) n C b (by omega) (by omega) (by omega) hC hb1 hb2
      by_cases e : lcN r m z + (T (i + z)).1 < b.1
      · rw [if_pos (nI_lt e (by omega))]
        exact sw (Or.inl e)
      · rw [if_neg (nI_nlt (by omega) (by omega))]
        by_cases f : lcN r m z + (T (i + z)).1 = b.1
        · rw [if_pos (by rw [f])]
          by_cases g : 1 + (T (i + z)).2 < b.2
          · rw [if_neg (nI_ge g (by omega))]
            exact sw (Or.inr ⟨f, g⟩)
          · rw [if_pos (nI_le (by omega) (by omega))]
            exact st (by omega)
        · rw [if_neg (fun q => f ((nI_eq (by omega) (by omega)).mp q))]
          exact st (by omega)
theorem x_mfr (hc : ∀ j, j < 16 → C.2 0 j = c j) (hi : i < 16) (h1 : ∀ j, i < j → j ≤ 16 → C.2 1 j = nI (TT c j).1 ∧ C.2 2 j = nI (TT c j).2) : ∃ C', f_X1_measureFrom C (nI i) = some C' ∧ CA 1 2 i C C' (TT c i).1 (TT c i).2 := by
  unfold f_X1_measureFrom
  have r1 := rn_b (c := c) hi
  have r2 := mc_b (c := c) hi
  rw [x_run hc hi, bs, x_mc hc hi, bs]
  obtain ⟨C1, C2, w1, w2, hC⟩ := CA.new (C0 := C) (i := i) (k1 := 1) (k2 := 2) 99 16 (by decide) (by omega)
  rw [li 99, w1, bs, li 16, w2, bs]
  have := x_mf (C0 := C) (r := rnN c i) (m := mcN c i) (T := TT c) hi (by omega) (by omega) (fun j a b => TT_b j (by omega) b) h1 (16 - i) 1 FU C2 (99, 16) (by omega) (by omega) (FU_ge (by omega)) hC (by decide) (by decide)
  have e : TT c i = itr (stB (rnN c i) (mcN c i) (TT c) i) (16 - i) 1 (99, 16) := TT_eq hi
  rw [← e] at this
  exact this
/-- the table of a row -/
def TBL (k1 k2 : Nat) (C : Pic) (c : Nat → Int32) (i : Nat) : Prop := ∀ j, i ≤ j → j ≤ 16 → C.2 k1 j = nI (TT c j).1 ∧ C.2 k2 j = nI (TT c j).2
theorem TBL.st {k1 k2 : Nat} {C' : Pic} (h12 : k1 ≠ k2) (h : TBL k1 k2 C c (i + 1)) (hC : CA k1 k2 i C C' (TT c i).1 (TT c i).2) : TBL k1 k2 C' c i := by
  intro j h1 h2
  rw [hC.2.2.1, hC.2.2.2]
  by_cases e : j = i
  · subst e; rw [up_s, up_s]; exact ⟨rfl, rfl⟩
  · rw [up_n e, up_n e]; exact h j (by omega) h2
theorem TT_16 : TT c 16 = (0, 0) := (TT_b (c := c) 16 (by omega) (by omega)).2.2.2 rfl
theorem x_msl {e : Pic} {x : Int32} : ∀ (k n : Nat) (C : Pic), k ≤ 16 → k < n → (∀ j, j < 16 → C.2 0 j = c j) → TBL 1 2 C c k → ∃ C', L_X1_measure_29 e x n C (nI k + (-1)) = some C' ∧ C'.1 = C.1 ∧ (∀ q, q ≠ 1 → q ≠ 2 → C'.2 q = C.2 q) ∧ TBL 1 2 C' c 0 := by
  intro k
  induction k with
  | zero =>
    intro n C _ hn hc hT
    cases n with
    | zero => omega
    | succ n =>
      refine ⟨C, ?_, rfl, fun _ _ _ => rfl, hT⟩
      show b_X1_measure_29 e x _ C (nI 0 + (-1)) = _
      unfold b_X1_measure_29
      rw [if_pos (by decide)]
  | succ k ih =>
    intro n C hk hn hc hT
    cases n with
    | zero => omega
    | succ n =>
      show ∃ C', b_X1_measure_29 e x (L_X1_measure_29 e x n) C (nI (k + 1) + (-1)) = some C' ∧ _
      unfold b_X1_measure_29
      obtain ⟨C1, w1, hC1⟩ := x_mfr (c := c) hc (i := k) (by omega) (fun j a b => hT j (by omega) b)
      rw [nI_dec, if_neg (nI_pos (by omega)), w1, bs]
      obtain ⟨C2, w2, a2, b2, t2⟩ := ih n C1 (by omega) (by omega) (fun j hj => by rw [hC1.2.1 0 (by decide) (by decide)]; exact hc j hj) (TBL.st (by decide) hT hC1)
      exact ⟨C2, w2, a2.trans hC1.1, fun q q1 q2 => (b2 q q1 q2).trans (hC1.2.1 q q1 q2), t2⟩
theorem x_ms {e : Pic} {fr : Nat} (hf : fr ≤ 144) (h1 : C.2 1 16 = nI 0) (h2 : C.2 2 16 = nI 0) (hc : ∀ j, j < 16 → e.2 0 (fr + j) = c j) : ∃ C', f_X1_measure C e (nI fr) = some C' ∧ C'.1 = C.1 ∧ (∀ q, q ≠ 0 → q ≠ 1 → q ≠ 2 → C'.2 q = C.2 q) ∧ (∀ j, j < 16 → C'.2 0 j = c j) ∧ TBL 1 2 C' c 0 := by
  unfold f_X1_measure
  obtain ⟨C1, w1, a1, b1, c1⟩ := cpA_n (p := C) (q := e) (k := 0) (n := 16) (k0 := 0) (n0 := 160) (a := fr) (b := 0) (l := 16) (by omega) (by omega) (by decide) (by decide)
  rw [if_neg (nI_pos (by omega)), show (160 : Int32) - 16 = nI 144 by decide, if_pos (nI_le hf (by decide)), li 0, li 16, w1, bs]
  have r1 : ∀ j, j < 16 → C1.2 0 j = c j := fun j hj => by
    rw [b1, if_pos ⟨by omega, by omega⟩, Nat.sub_zero]
    exact hc j hj
  have t1 : TBL 1 2 C1 c 16 := by
    intro j h3 h4
    have : j = 16 := by omega
    subst this
    rw [c1 1 (by decide), c1 2 (by decide), TT_16]
    exact ⟨h1, h2⟩
  obtain ⟨C2, w2, a2, b2, t2⟩ := x_msl (e := e) (x := nI fr) 16 FU C1 (Nat.le_refl _) (FU_ge (by omega)) r1 t1
  rw [show (15 : Int32) = nI 16 + (-1) by decide]
  exact ⟨C2, w2, a2.trans a1, fun q q0 q1 q2 => (b2 q q1 q2).trans (c1 q q0), fun j hj => by rw [b2 0 (by decide) (by decide)]; exact r1 j hj, t2⟩
end CT
