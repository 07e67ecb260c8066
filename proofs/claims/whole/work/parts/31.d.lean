/-! (B) cuts: the reference's table -/
/-- a piece of a length that may be cut, and its cost -/
def OP (c : Nat → Int32) (i n co : Nat) : Prop := (2 ≤ n ∧ n ≤ rnN c i ∧ co = 2) ∨ (2 ≤ n ∧ n ≤ mcN c i ∧ co = 3) ∨ (1 ≤ n ∧ n ≤ 8 ∧ i + n ≤ 16 ∧ co = n + 1)
def opV (c : Nat → Int32) (i n co : Nat) : Nat × Nat := (co + (TT c (i + n)).1, 1 + (TT c (i + n)).2)
def ATD (c : Nat → Int32) (i : Nat) (a : Nat × Nat) : Prop := a = (1000, 1000) ∨ ∃ n co, OP c i n co ∧ a = opV c i n co
theorem lx_rf {a : Nat × Nat} : lx a a := Or.inr ⟨rfl, Nat.le_refl _⟩
theorem lx_tr {a b e : Nat × Nat} (h1 : lx a b) (h2 : lx b e) : lx a e := by
  unfold lx at h1 h2 ⊢
  omega
theorem lx_as {a b : Nat × Nat} (h1 : lx a b) (h2 : lx b a) : a = b := by
  unfold lx at h1 h2
  have e1 : a.1 = b.1 := by omega
  have e2 : a.2 = b.2 := by omega
  exact Prod.ext e1 e2
theorem OP.b {c : Nat → Int32} {i n co : Nat} (hi : i < 16) (h : OP c i n co) : 1 ≤ n ∧ i + n ≤ 16 ∧ co ≤ 9 ∧ 2 ≤ co := by
  have r1 := rn_b (c := c) hi
  have r2 := mc_b (c := c) hi
  rcases h with h | h | h <;> omega
theorem ATD.b {c : Nat → Int32} {i : Nat} {a : Nat × Nat} (hi : i < 16) (h : ATD c i a) : a.1 ≤ 1000 ∧ a.2 ≤ 1000 := by
  rcases h with h | ⟨n, co, ho, h⟩
  · subst h; exact ⟨Nat.le_refl _, Nat.le_refl _⟩
  · subst h
    have hb := ho.b hi
    have tb := TT_b (c := c) (i + n) (by omega) hb.2.1
    unfold opV
    dsimp only
    omega
section CM
variable {d D D0 : Pic} {c : Nat → Int32} {i : Nat}
theorem m_try {n co : Nat} {a : Nat × Nat} (hi : i < 16) (h1 : TBL 34 35 D0 c (i + 1)) (hO : OP c i n co) (hC : CA 34 35 i D0 D a.1 a.2) (ha : ATD c i a) : ∃ D' a', f_X9_tries D (nI i) (nI n) (nI co) = some D' ∧ CA 34 35 i D0 D' a'.1 a'.2 ∧ ATD c i a' ∧ lx a' a ∧ lx a' (opV c i n co) := by
  obtain ⟨n1, n2, n3, -⟩ := hO.b hi
  have ab := ha.b hi
  have t := h1 (i + n) (by omega) n2
  have tb := TT_b (c := c) (i + n) (by omega) n2
  have e1 : rA D 34 17 (nI (i + n)) = some (nI (TT c (i + n)).1) := by rw [rA_n (by omega) (by decide), hC.2.2.1, up_n (by omega), t.1]
  have e2 : rA D 35 17 (nI (i + n)) = some (nI (TT c (i + n)).2) := by rw [rA_n (by omega) (by decide), hC.2.2.2, up_n (by omega), t.2]
  have e3 : rA D 34 17 (nI i) = some (nI a.1) := by rw [rA_n (by omega) (by decide), hC.2.2.1, up_s]
  have e4 : rA D 35 17 (nI i) = some (nI a.2) := by rw [rA_n (by omega) (by decide), hC.2.2.2, up_s]
  unfold f_X9_tries
  rw [nI_add i n, e1, bs, e2, bs, e3, bs, bs, e4, bs, nI_add co _, li 1, nI_add 1 _]
  have sw : lx (opV c i n co) a → ∃ D' a', b_X9_tries_58 (nI i) (nI n) (nI co) D (nI (co + (TT c (i + n)).1)) (nI (1 + (TT c (i + n)).2)) = some D' ∧ CA 34 35 i D0 D' a'.1 a'.2 ∧ ATD c i a' ∧ lx a' a ∧ lx a' (opV c i n co) := by
    intro hh
    obtain ⟨D1, D2, w1, w2, hD⟩ := hC.set (co + (TT c (i + n)).1) (1 + (TT c (i + n)).2) (by decide) (by omega)
    unfold b_X9_tries_58
    rw [w1, bs, w2, bs]
    exact ⟨D2, opV c i n co, rfl, hD, Or.inr ⟨n, co, hO, rfl⟩, hh, lx_rf⟩
  by_cases e : a.1 < co + (TT c (i + n)).1
  · rw [if_pos (nI_lt e (by omega))]
    exact ⟨D, a, rfl, hC, ha, lx_rf, Or.inl e⟩
  · rw [if_neg (nI_nlt (by omega) (by omega))]
    by_cases f : co + (TT c (i + n)).1 = a.1
    · rw [if_pos (by rw [f])]
      by_cases g : 1 + (TT c (i + n)).2 < a.2
      · rw [if_pos (nI_lt g (by omega))]
        exact sw (Or.inr ⟨f, by show 1 + (TT c (i + n)).2 ≤ a.2; omega⟩)
      · rw [if_neg (nI_nlt (by omega) (by omega))]
        exact ⟨D, a, rfl, hC, ha, lx_rf, Or.inr ⟨f.symm, by show a.2 ≤ 1 + (TT c (i + n)).2; omega⟩⟩
    · rw [if_neg (fun q => f ((nI_eq (by omega) (by omega)).mp q))]
      exact sw (Or.inl (by show co + (TT c (i + n)).1 < a.1; omega))
theorem m_47 (k19 : Pic → Int32 → Option Pic) (hi : i < 16) (h1 : TBL 34 35 D0 c (i + 1)) : ∀ (n m : Nat) (D : Pic) (a : Nat × Nat), n ≤ rnN c i → n < m → CA 34 35 i D0 D a.1 a.2 → ATD c i a → ∃ D' a', L_X9_laysLeast_47 k19 m D (nI i) (nI n) = L_X9_laysLeast_67 k19 FU D' (nI i) 2 ∧ CA 34 35 i D0 D' a'.1 a'.2 ∧ ATD c i a' ∧ lx a' a ∧ ∀ k, 2 ≤ k → k ≤ n → lx a' (opV c i k 2) := by
  intro n
  induction n with
  | zero =>
    intro m D a hn hm hC ha
    cases m with
    | zero => omega
    | succ m =>
      refine ⟨D, a, ?_, hC, ha, lx_rf, fun k h1 h2 => by omega⟩
      show b_X9_laysLeast_47 k19 _ D (nI i) (nI 0) = _
      unfold b_X9_laysLeast_47
      rw [if_pos (by decide)]
  | succ n ih =>
    intro m D a hn hm hC ha
    cases m with
    | zero => omega
    | succ m =>
      show ∃ D' a', b_X9_laysLeast_47 k19 (L_X9_laysLeast_47 k19 m) D (nI i) (nI (n + 1)) = _ ∧ _
      unfold b_X9_laysLeast_47
      have r1 := rn_b (c := c) hi
      by_cases e : n = 0
      · subst e
        rw [if_pos (by decide)]
        exact ⟨D, a, rfl, hC, ha, lx_rf, fun k h1 h2 => by omega⟩
      · rw [if_neg (show ¬ nI (n + 1) ≤ 1 from nI_ge (a := 1) (by omega) (by omega))]
        obtain ⟨D1, a1, w1, c1, t1, l1, l2⟩ := m_try (n := n + 1) (co := 2) hi h1 (Or.inl ⟨by omega, hn, rfl⟩) hC ha
        rw [li 2, w1, bs, nI_dec]
        obtain ⟨D2, a2, w2, c2, t2, l3, l4⟩ := ih m D1 a1 (by omega) (by omega) c1 t1
        refine ⟨D2, a2, w2, c2, t2, lx_tr l3 l1, fun k h1 h2 => ?_⟩
        by_cases g : k = n + 1
        · subst g; exact lx_tr l3 l2
        · exact l4 k h1 (by omega)
theorem m_80 (k19 : Pic → Int32 → Option Pic) (k67 : Pic → Int32 → Int32 → Option Pic) {q : Nat} (hi : i < 16) (h1 : TBL 34 35 D0 c (i + 1)) : ∀ (n m : Nat) (D : Pic) (a : Nat × Nat), n ≤ mcN c i → n < m → CA 34 35 i D0 D a.1 a.2 → ATD c i a → ∃ D' a', L_X9_laysLeast_80 k19 k67 m D (nI i) (nI q) (nI n) = k67 D' (nI i) (nI q + 1) ∧ CA 34 35 i D0 D' a'.1 a'.2 ∧ ATD c i a' ∧ lx a' a ∧ ∀ k, 2 ≤ k → k ≤ n → lx a' (opV c i k 3) := by
  intro n
  induction n with
  | zero =>
    intro m D a hn hm hC ha
    cases m with
    | zero => omega
    | succ m =>
      refine ⟨D, a, ?_, hC, ha, lx_rf, fun k h1 h2 => by omega⟩
      show b_X9_laysLeast_80 k19 k67 _ D (nI i) (nI q) (nI 0) = _
      unfold b_X9_laysLeast_80
      rw [if_pos (by decide)]
  | succ n ih =>
    intro m D a hn hm hC ha
    cases m with
    | zero => omega
    | succ m =>
      show ∃ D' a', b_X9_laysLeast_80 k19 k67 (L_X9_laysLeast_80 k19 k67 m) D (nI i) (nI q) (nI (n + 1)) = _ ∧ _
      unfold b_X9_laysLeast_80
      have r1 := mc_b (c := c) hi
      by_cases e : n = 0
      · subst e
        rw [if_pos (by decide)]
        exact ⟨D, a, rfl, hC, ha, lx_rf, fun k h1 h2 => by omega⟩
      · rw [if_neg (show ¬ nI (n + 1) ≤ 1 from nI_ge (a := 1) (by omega) (by omega))]
        obtain ⟨D1, a1, w1, c1, t1, l1, l2⟩ := m_try (n := n + 1) (co := 3) hi h1 (Or.inr (Or.inl ⟨by omega, hn, rfl⟩)) hC ha
        rw [li 3, w1, bs, nI_dec]
        obtain ⟨D2, a2, w2, c2, t2, l3, l4⟩ := ih m D1 a1 (by omega) (by omega) c1 t1
        refine ⟨D2, a2, w2, c2, t2, lx_tr l3 l1, fun k h1 h2 => ?_⟩
        by_cases g : k = n + 1
        · subst g; exact lx_tr l3 l2
        · exact l4 k h1 (by omega)
theorem m_67 (k19 : Pic → Int32 → Option Pic) (hi : i < 16) (h33 : ∀ j, j < 16 → D0.2 33 j = c j) (h1 : TBL 34 35 D0 c (i + 1)) : ∀ (k m q : Nat) (D : Pic) (a : Nat × Nat), q + k = 16 → 2 ≤ q → k < m → CA 34 35 i D0 D a.1 a.2 → ATD c i a → ∃ D' a', L_X9_laysLeast_67 k19 m D (nI i) (nI q) = L_X9_laysLeast_106 k19 FU D' (nI i) 1 ∧ CA 34 35 i D0 D' a'.1 a'.2 ∧ ATD c i a' ∧ lx a' a ∧ ∀ r, q ≤ r → r ≤ i → ∀ n, 2 ≤ n → n ≤ cpN c i r → lx a' (opV c i n 3) := by
  intro k
  induction k with
  | zero =>
    intro m q D a hq h2q hm hC ha
    cases m with
    | zero => omega
    | succ m =>
      refine ⟨D, a, ?_, hC, ha, lx_rf, fun r h1 h2 => by omega⟩
      show b_X9_laysLeast_67 k19 _ D (nI i) (nI q) = _
      unfold b_X9_laysLeast_67
      rw [li 15, if_pos (nI_lt (by omega) (by omega))]
  | succ k ih =>
    intro m q D a hq h2q hm hC ha
    cases m with
    | zero => omega
    | succ m =>
      show ∃ D' a', b_X9_laysLeast_67 k19 (L_X9_laysLeast_67 k19 m) D (nI i) (nI q) = _ ∧ _
      unfold b_X9_laysLeast_67
      rw [li 15, if_neg (nI_nlt (by omega) (by omega)), m_cp (c := c) (fun j hj => by rw [hC.2.1 33 (by decide) (by decide)]; exact h33 j hj) hi (by omega) h2q, bs]
      have hle : (if q ≤ i then cpN c i q else 0) ≤ mcN c i := by
        by_cases g : q ≤ i
        · rw [if_pos g]; exact mc_sp.2 q h2q g
        · rw [if_neg g]; omega
      have r1 := mc_b (c := c) hi
      obtain ⟨D1, a1, w1, c1, t1, l1, l2⟩ := m_80 k19 (L_X9_laysLeast_67 k19 m) (q := q) hi h1 (if q ≤ i then cpN c i q else 0) FU D a hle (FU_ge (by omega)) hC ha
      rw [w1, nI_1]
      obtain ⟨D2, a2, w2, c2, t2, l3, l4⟩ := ih m (q + 1) D1 a1 (by omega) (by omega) (by omega) c1 t1
      refine ⟨D2, a2, w2, c2, t2, lx_tr l3 l1, fun r h1 h2 n h3 h4 => ?_⟩
      by_cases g : r = q
      · subst g
        rw [if_pos h2] at l2
        exact lx_tr l3 (l2 n h3 h4)
      · exact l4 r (by omega) h2 n h3 h4
theorem m_106 (k19 : Pic → Int32 → Option Pic) (hi : i < 16) (h1 : TBL 34 35 D0 c (i + 1)) : ∀ (k m n : Nat) (D : Pic) (a : Nat × Nat), n + k = 9 → 1 ≤ n → k < m → CA 34 35 i D0 D a.1 a.2 → ATD c i a → ∃ D' a', L_X9_laysLeast_106 k19 m D (nI i) (nI n) = k19 D' (nI i + (-1)) ∧ CA 34 35 i D0 D' a'.1 a'.2 ∧ ATD c i a' ∧ lx a' a ∧ ∀ r, n ≤ r → r ≤ 8 → i + r ≤ 16 → lx a' (opV c i r (r + 1)) := by
  intro k
  induction k with
  | zero =>
    intro m n D a hq h2q hm hC ha
    cases m with
    | zero => omega
    | succ m =>
      refine ⟨D, a, ?_, hC, ha, lx_rf, fun r h1 h2 => by omega⟩
      show b_X9_laysLeast_106 k19 _ D (nI i) (nI n) = _
      unfold b_X9_laysLeast_106
      rw [li 8, if_pos (nI_lt (by omega) (by omega))]
  | succ k ih =>
    intro m n D a hq h2q hm hC ha
    cases m with
    | zero => omega
    | succ m =>
      show ∃ D' a', b_X9_laysLeast_106 k19 (L_X9_laysLeast_106 k19 m) D (nI i) (nI n) = _ ∧ _
      unfold b_X9_laysLeast_106
      rw [li 8, if_neg (nI_nlt (by omega) (by omega)), nI_add i n, li 16]
      by_cases e : 16 < i + n
      · rw [if_pos (nI_lt e (by omega))]
        exact ⟨D, a, rfl, hC, ha, lx_rf, fun r h1 h2 h3 => by omega⟩
      · rw [if_neg (nI_nlt (by omega) (by omega)), nI_1 n, li 1, nI_add 1 n]
        obtain ⟨D1, a1, w1, c1, t1, l1, l2⟩ := m_try (n := n) (co := 1 + n) hi h1 (Or.inr (Or.inr ⟨h2q, by omega, by omega, by omega⟩)) hC ha
        rw [w1, bs]
        obtain ⟨D2, a2, w2, c2, t2, l3, l4⟩ := ih m (n + 1) D1 a1 (by omega) (by omega) (by omega) c1 t1
        refine ⟨D2, a2, w2, c2, t2, lx_tr l3 l1, fun r h1 h2 h3 => ?_⟩
        by_cases g : r = n
        · subst g
          rw [Nat.add_comm r 1]
          exact lx_tr l3 l2
        · exact l4 r (by omega) h2 h3
theorem tt_min {a : Nat × Nat} (hi : i < 16) (ha : ATD c i a) (hl : ∀ n co, OP c i n co → lx a (opV c i n co)) : a = TT c i := by
  obtain ⟨⟨n, n1, n2, n3⟩, q3⟩ := bs_sp (r := rnN c i) (m := mcN c i) (T := TT c) hi (fun j a b => TT_b j (by omega) b)
  rw [← TT_eq hi] at n3 q3
  have tb := TT_b (c := c) i (by omega) (by omega)
  have tn := TT_b (c := c) (i + n) (by omega) n2
  refine lx_as ?_ ?_
  · have : OP c i n (lcN (rnN c i) (mcN c i) n) := by
      have h99 : lcN (rnN c i) (mcN c i) n ≤ 32 := by
        have := congrArg Prod.fst n3
        dsimp only at this
        omega
      unfold OP
      unfold lcN at h99 ⊢
      split
      · rename_i g; exact Or.inl ⟨g.1, g.2, rfl⟩
      · rename_i g1
        split
        · rename_i g; exact Or.inr (Or.inl ⟨g.1, g.2, rfl⟩)
        · rename_i g2
          rw [if_neg g1, if_neg g2] at h99
          split
          · rename_i g; exact Or.inr (Or.inr ⟨n1, g, n2, rfl⟩)
          · rename_i g
            rw [if_neg g] at h99
            omega
    have := hl n _ this
    rw [n3]
    exact this
  · rcases ha with h | ⟨n', co, ho, h⟩
    · exfalso
      have := hl 1 2 (Or.inr (Or.inr ⟨by omega, by omega, by omega, rfl⟩))
      have t1 := TT_b (c := c) (i + 1) (by omega) (by omega)
      rw [h] at this
      unfold lx opV at this
      dsimp only at this
      omega
    · obtain ⟨b1, b2, -, -⟩ := ho.b hi
      have := q3 n' b1 b2
      refine lx_tr this ?_
      rw [h]
      have hco : lcN (rnN c i) (mcN c i) n' ≤ co := by
        unfold lcN
        rcases ho with o | o | o
        · rw [if_pos ⟨o.1, o.2.1⟩]; omega
        · split
          · omega
          · rw [if_pos ⟨o.1, o.2.1⟩]; omega
        · split
          · omega
          · split
            · omega
            · rw [if_pos o.2.1]; omega
      unfold lx opV
      dsimp only
      omega
theorem m_lay : ∀ (k n : Nat) (D : Pic), k ≤ 16 → k < n → (∀ j, j < 16 → D.2 33 j = c j) → TBL 34 35 D c k → ∃ D', L_X9_laysLeast_19 n D (nI k + (-1)) = some D' ∧ D'.1 = D.1 ∧ (∀ q, q ≠ 34 → q ≠ 35 → D'.2 q = D.2 q) ∧ TBL 34 35 D' c 0 := by
  intro k
  induction k with
  | zero =>
    intro n D _ hn hc hT
    cases n with
    | zero => omega
    | succ n =>
      refine ⟨D, ?_, rfl, fun _ _ _ => rfl, hT⟩
      show b_X9_laysLeast_19 _ D (nI 0 + (-1)) = _
      unfold b_X9_laysLeast_19
      rw [if_pos (by decide)]
  | succ k ih =>
    intro n D hk hn hc hT
    cases n with
    | zero => omega
    | succ n =>
      show ∃ D', b_X9_laysLeast_19 (L_X9_laysLeast_19 n) D (nI (k + 1) + (-1)) = some D' ∧ _
      unfold b_X9_laysLeast_19
      obtain ⟨D1, D2, w1, w2, hC⟩ := CA.new (C0 := D) (i := k) (k1 := 34) (k2 := 35) 1000 1000 (by decide) (by omega)
      have hk16 : k < 16 := by omega
      have r1 := rn_b (c := c) hk16
      rw [nI_dec, if_neg (nI_pos (by omega)), li 1000, w1, bs, w2, bs, m_run (c := c) (fun j hj => by rw [hC.2.1 33 (by decide) (by decide)]; exact hc j hj) hk16, bs]
      obtain ⟨D3, a3, w3, c3, t3, l3, m3⟩ := m_47 (D0 := D) (L_X9_laysLeast_19 n) hk16 hT (rnN c k) FU D2 (1000, 1000) (Nat.le_refl _) (FU_ge (by omega)) hC (Or.inl rfl)
      obtain ⟨D4, a4, w4, c4, t4, l4, m4⟩ := m_67 (D0 := D) (L_X9_laysLeast_19 n) hk16 hc hT 14 FU 2 D3 a3 (by omega) (by omega) (FU_ge (by omega)) c3 t3
      obtain ⟨D5, a5, w5, c5, t5, l5, m5⟩ := m_106 (D0 := D) (L_X9_laysLeast_19 n) hk16 hT 8 FU 1 D4 a4 (by omega) (by omega) (FU_ge (by omega)) c4 t4
      rw [w3, li 2, w4, li 1, w5]
      have ea : a5 = TT c k := tt_min hk16 t5 (fun n co ho => by
        rcases ho with ⟨o1, o2, o3⟩ | ⟨o1, o2, o3⟩ | ⟨o1, o2, o3, o4⟩
        · subst o3; exact lx_tr l5 (lx_tr l4 (m3 n o1 o2))
        · subst o3
          rcases (mc_sp (c := c) (i := k)).1 with h | ⟨q, h1, h2, h3⟩
          · omega
          · exact lx_tr l5 (m4 q h1 h2 n o1 (by omega))
        · subst o4; exact m5 n o1 o2 o3)
      rw [ea] at c5
      obtain ⟨D6, w6, a6, b6, t6⟩ := ih n D5 (by omega) (by omega) (fun j hj => by rw [c5.2.1 33 (by decide) (by decide)]; exact hc j hj) (TBL.st (by decide) hT c5)
      exact ⟨D6, w6, a6.trans c5.1, fun q q1 q2 => (b6 q q1 q2).trans (c5.2.1 q q1 q2), t6⟩
theorem m_lays (hc : ∀ j, j < 16 → d.2 33 j = c j) : ∃ D, f_X9_laysLeast d = some D ∧ D.1 = d.1 ∧ (∀ q, q ≠ 34 → q ≠ 35 → D.2 q = d.2 q) ∧ TBL 34 35 D c 0 := by
  unfold f_X9_laysLeast
  obtain ⟨D1, D2, w1, w2, hC⟩ := CA.new (C0 := d) (i := 16) (k1 := 34) (k2 := 35) 0 0 (by decide) (by omega)
  rw [li 16, li 0, w1, bs, w2, bs, show (15 : Int32) = nI 16 + (-1) by decide]
  obtain ⟨D3, w3, a3, b3, t3⟩ := m_lay (c := c) 16 FU D2 (Nat.le_refl _) (FU_ge (by omega)) (fun j hj => by rw [hC.2.1 33 (by decide) (by decide)]; exact hc j hj) (fun j h1 h2 => by
    have : j = 16 := by omega
    subst this
    rw [hC.2.2.1, hC.2.2.2, up_s, up_s, TT_16]
    exact ⟨rfl, rfl⟩)
  exact ⟨D3, w3, a3.trans hC.1, fun q q1 q2 => (b3 q q1 q2).trans (hC.2.1 q q1 q2), t3⟩
theorem m_tk {fr : Nat} (hf : fr + 16 ≤ 1234) (hc : ∀ j, j < 16 → d.2 20 (fr + j) = c j) : ∃ D, f_X9_takes d (nI fr) = some D ∧ D.1 = d.1 ∧ (∀ q, q ≠ 33 → D.2 q = d.2 q) ∧ ∀ j, j < 16 → D.2 33 j = c j := by
  have key : ∀ (k n z : Nat) (D : Pic), z + k = 16 → k < n → D.1 = d.1 → (∀ q, q ≠ 33 → D.2 q = d.2 q) → (∀ j, j < z → D.2 33 j = c j) → ∃ D', L_X9_takes_2 (nI fr) n D (nI z) = some D' ∧ D'.1 = d.1 ∧ (∀ q, q ≠ 33 → D'.2 q = d.2 q) ∧ ∀ j, j < 16 → D'.2 33 j = c j := by
    intro k
    induction k with
    | zero =>
      intro n z D hz hn h1 h2 h3
      cases n with
      | zero => omega
      | succ n =>
        refine ⟨D, ?_, h1, h2, fun j hj => h3 j (by omega)⟩
        show b_X9_takes_2 (nI fr) _ D (nI z) = _
        unfold b_X9_takes_2
        rw [li 16, if_pos (nI_le (by omega) (by omega))]
    | succ k ih =>
      intro n z D hz hn h1 h2 h3
      cases n with
      | zero => omega
      | succ n =>
        show ∃ D', b_X9_takes_2 (nI fr) (L_X9_takes_2 (nI fr) n) D (nI z) = some D' ∧ _
        unfold b_X9_takes_2
        rw [li 16, if_neg (nI_ge (by omega) (by omega)), nI_add fr z, rA_n (by omega) (by decide), bs, h2 20 (by decide), hc z (by omega), nI_1 z]
        obtain ⟨D1, w1, a1, b1, c1⟩ := wA_e (p := D) 33 (n := 16) (j := z) (c z) (by omega) (by decide)
        rw [w1, bs]
        refine ih n (z + 1) D1 (by omega) (by omega) (a1.trans h1) (fun q hq => (c1 q hq).trans (h2 q hq)) (fun j hj => ?_)
        rw [b1]
        by_cases e : j = z
        · subst e; rw [up_s]
        · rw [up_n e]; exact h3 j (by omega)
  exact key 16 FU 0 d (by omega) (FU_ge (by omega)) rfl (fun _ _ => rfl) (fun j hj => by omega)
end CM
