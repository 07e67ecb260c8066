/-! (B) cuts: all pieces -/
def CIc (C : Pic) : Prop := C.2 1 16 = nI 0 ∧ C.2 2 16 = nI 0
/-- the reference is as it was, but for what the cuts write -/
def FC (d D : Pic) : Prop := (∀ k, k ≠ 40 → gS D k = gS d k) ∧ (∀ k, k < 33 ∨ 40 ≤ k → D.2 k = d.2 k)
theorem FC.rf {d : Pic} : FC d d := ⟨fun _ _ => rfl, fun _ _ => rfl⟩
theorem FC.tr {a b e : Pic} (h1 : FC a b) (h2 : FC b e) : FC a e := ⟨fun k hk => (h2.1 k hk).trans (h1.1 k hk), fun k hk => (h2.2 k hk).trans (h1.2 k hk)⟩
def ALLP (c : Nat → Int32) (N : Nat) : Prop := posN c N = 16 ∧ ∀ j, j < N → posN c j < 16
theorem ALLP.le {c : Nat → Int32} {N : Nat} (h : ALLP c N) : N ≤ 16 := by
  have := (pos_ge N h.2).1
  rw [h.1] at this
  exact this
section CQ
variable {C d D : Pic} {c : Nat → Int32} {i : Nat}
theorem pcs_add {k3 k4 k5 k6 k7 n : Nat} (h34 : k3 ≠ k4) (h35 : k3 ≠ k5) (h36 : k3 ≠ k6) (h45 : k4 ≠ k5) (h46 : k4 ≠ k6) (h56 : k5 ≠ k6) (h : PCS k3 k4 k5 k6 k7 C c n) (hn : n < 16) : ∃ C', ((wA C k3 16 (gS C k7) (nI (pcN c (posN c n)).1)).bind fun c1 => (wA c1 k4 16 (gS c1 k7) (nI (posN c n))).bind fun c2 => (wA c2 k5 16 (gS c2 k7) (nI (pcN c (posN c n)).2.1)).bind fun c3 => (wA c3 k6 16 (gS c3 k7) (nI (pcN c (posN c n)).2.2)).bind fun c4 => (some (pS c4 k7 ((gS c4 k7) + 1))).bind fun c5 => some c5) = some C' ∧ PCS k3 k4 k5 k6 k7 C' c (n + 1) ∧ (∀ q, q ≠ k7 → gS C' q = gS C q) ∧ ∀ q, q ≠ k3 → q ≠ k4 → q ≠ k5 → q ≠ k6 → C'.2 q = C.2 q := by
  obtain ⟨C1, w1, a1, b1, c1⟩ := wA_e (p := C) k3 (n := 16) (nI (pcN c (posN c n)).1) hn (by decide)
  obtain ⟨C2, w2, a2, b2, c2⟩ := wA_e (p := C1) k4 (n := 16) (nI (posN c n)) hn (by decide)
  obtain ⟨C3, w3, a3, b3, c3⟩ := wA_e (p := C2) k5 (n := 16) (nI (pcN c (posN c n)).2.1) hn (by decide)
  obtain ⟨C4, w4, a4, b4, c4⟩ := wA_e (p := C3) k6 (n := 16) (nI (pcN c (posN c n)).2.2) hn (by decide)
  obtain ⟨C5, w5, a5, b5, c5⟩ := pS_e C4 k7 (gS C4 k7 + 1)
  have g1 : gS C1 k7 = nI n := by unfold gS; rw [a1]; exact h.1
  have g2 : gS C2 k7 = nI n := by unfold gS; rw [a2]; exact g1
  have g3 : gS C3 k7 = nI n := by unfold gS; rw [a3]; exact g2
  have g4 : gS C4 k7 = nI n := by unfold gS; rw [a4]; exact g3
  rw [h.1, w1, bs, g1, w2, bs, g2, w3, bs, g3, w4, bs, w5]
  refine ⟨C5, rfl, ⟨?_, fun j hj => ?_⟩, fun q hq => ?_, fun q q3 q4 q5 q6 => ?_⟩
  · rw [a5, g4, nI_1]
  · rw [c5, c4 k3 h36, c3 k3 h35, c2 k3 h34, b1, c4 k4 h46, c3 k4 h45, b2, c1 k4 (fun e => h34 e.symm), c4 k5 h56, b3, c2 k5 (fun e => h45 e.symm), c1 k5 (fun e => h35 e.symm), b4, c3 k6 (fun e => h56 e.symm), c2 k6 (fun e => h46 e.symm), c1 k6 (fun e => h36 e.symm)]
    by_cases e : j = n
    · subst e
      rw [up_s, up_s, up_s, up_s]
      exact ⟨rfl, rfl, rfl, rfl⟩
    · rw [up_n e, up_n e, up_n e, up_n e]
      exact h.2 j (by omega)
  · rw [b5 q hq]
    unfold gS
    rw [a4, a3, a2, a1]
  · rw [c5, c4 q q6, c3 q q5, c2 q q4, c1 q q3]
theorem x_chl : ∀ (k n m : Nat) (C : Pic), 16 ≤ posN c n + k → (∀ j, j < n → posN c j < 16) → k < m → (∀ j, j < 16 → C.2 0 j = c j) → TBL 1 2 C c 0 → PCS 3 4 5 6 7 C c n → ∃ C' N, L_X1_choosePieces_9 m C (nI (posN c n)) (nI n) = some C' ∧ PCS 3 4 5 6 7 C' c N ∧ ALLP c N ∧ (∀ q, q ≠ 7 → gS C' q = gS C q) ∧ ∀ q, q < 3 ∨ 7 ≤ q → C'.2 q = C.2 q := by
  intro k
  induction k with
  | zero =>
    intro n m C h1 h2 hm hc hT hP
    cases m with
    | zero => omega
    | succ m =>
      have := pos_ge n h2
      refine ⟨C, n, ?_, hP, ⟨by omega, h2⟩, fun _ _ => rfl, fun _ _ => rfl⟩
      show b_X1_choosePieces_9 _ C (nI (posN c n)) (nI n) = _
      unfold b_X1_choosePieces_9
      rw [li 16, if_pos (nI_le (by omega) (by omega))]
  | succ k ih =>
    intro n m C h1 h2 hm hc hT hP
    cases m with
    | zero => omega
    | succ m =>
      have pg := pos_ge n h2
      show ∃ C' N, b_X1_choosePieces_9 (L_X1_choosePieces_9 m) C (nI (posN c n)) (nI n) = some C' ∧ _
      unfold b_X1_choosePieces_9
      by_cases e : 16 ≤ posN c n
      · rw [li 16, if_pos (nI_le e (by omega))]
        exact ⟨C, n, rfl, hP, ⟨by omega, h2⟩, fun _ _ => rfl, fun _ _ => rfl⟩
      · have hi : posN c n < 16 := by omega
        have hn : n < 16 := by omega
        have pb := pc_b (c := c) hi
        rw [li 16, if_neg (nI_ge hi (by omega)), if_neg (nI_ge hn (by omega)), x_cpc hc hT hi]
        unfold f_X1_addPiece
        rw [if_neg (show ¬ (16 : Int32) ≤ gS C 7 by rw [hP.1]; exact nI_ge (b := 16) hn (by decide))]
        obtain ⟨C1, w1, p1, f1, f2⟩ := pcs_add (by decide) (by decide) (by decide) (by decide) (by decide) (by decide) hP hn
        have tc := (p1.2 n (by omega)).2.2.1
        rw [w1, bs, rA_n hn (by decide), bs, tc, nI_add, nI_1]
        obtain ⟨C2, N, w2, p2, al, g1, g2⟩ := ih (n + 1) m C1 (by show 16 ≤ posN c n + (pcN c (posN c n)).2.1 + k; omega) (fun j hj => by
          by_cases g : j = n
          · subst g; exact hi
          · exact h2 j (by omega)) (by omega) (fun j hj => by rw [f2 0 (by decide) (by decide) (by decide) (by decide)]; exact hc j hj) (fun j a b => by rw [f2 1 (by decide) (by decide) (by decide) (by decide), f2 2 (by decide) (by decide) (by decide) (by decide)]; exact hT j a b) p1
        refine ⟨C2, N, w2, p2, al, fun q hq => (g1 q hq).trans (f1 q hq), fun q hq => (g2 q hq).trans (f2 q (by omega) (by omega) (by omega) (by omega))⟩
/-- the class cuts -/
theorem x_cd {m t e : Pic} {k : Nat} (hk : k < 10) (hC : CIc C) (hc : ∀ j, j < 16 → e.2 0 (k * 16 + j) = c j) : ∃ C' N, f_X8_cutData m C t e (nI k) = some C' ∧ CIc C' ∧ PCS 3 4 5 6 7 C' c N ∧ ALLP c N := by
  unfold f_X8_cutData
  obtain ⟨C1, w1, a1, b1, r1, t1⟩ := x_ms (C := C) (e := e) (fr := k * 16) (by omega) hC.1 hC.2 hc
  rw [li 16, nI_mul, w1, bs]
  unfold f_X1_choosePieces
  obtain ⟨C2, w2, a2, b2, c2⟩ := pS_e C1 7 0
  rw [bs, w2]
  obtain ⟨C3, N, w3, p3, al, g1, g2⟩ := x_chl (c := c) 16 0 FU C2 (by show 16 ≤ 0 + 16; omega) (fun j hj => by omega) (FU_ge (by omega)) (fun j hj => by rw [c2]; exact r1 j hj) (fun j a b => by rw [c2]; exact t1 j a b) ⟨a2, fun j hj => by omega⟩
  have w3' : L_X1_choosePieces_9 FU C2 0 0 = some C3 := w3
  rw [w3', bs]
  have t16 := t1 16 (by omega) (by omega)
  rw [TT_16] at t16
  refine ⟨C3, N, rfl, ⟨?_, ?_⟩, p3, al⟩
  · rw [g2 1 (by omega), c2]; exact t16.1
  · rw [g2 2 (by omega), c2]; exact t16.2
theorem m_chl {x : Int32} : ∀ (k n m : Nat) (D : Pic), 16 ≤ posN c n + k → (∀ j, j < n → posN c j < 16) → k < m → (∀ j, j < 16 → D.2 33 j = c j) → TBL 34 35 D c 0 → PCS 36 37 38 39 40 D c n → ∃ D' N, L_X9_cutAll_16 x m D (nI (posN c n)) = some (nI (TT c 0).1, D') ∧ PCS 36 37 38 39 40 D' c N ∧ ALLP c N ∧ TBL 34 35 D' c 0 ∧ (∀ q, q ≠ 40 → gS D' q = gS D q) ∧ ∀ q, q < 36 ∨ 40 ≤ q → D'.2 q = D.2 q := by
  intro k
  induction k with
  | zero =>
    intro n m D h1 h2 hm hc hT hP
    cases m with
    | zero => omega
    | succ m =>
      have := pos_ge n h2
      refine ⟨D, n, ?_, hP, ⟨by omega, h2⟩, hT, fun _ _ => rfl, fun _ _ => rfl⟩
      show b_X9_cutAll_16 x _ D (nI (posN c n)) = _
      unfold b_X9_cutAll_16
      rw [li 16, if_pos (nI_le (by omega) (by omega)), li 0, rA_n (by omega) (by decide), bs, (hT 0 (by omega) (by omega)).1]
  | succ k ih =>
    intro n m D h1 h2 hm hc hT hP
    cases m with
    | zero => omega
    | succ m =>
      have pg := pos_ge n h2
      show ∃ D' N, b_X9_cutAll_16 x (L_X9_cutAll_16 x m) D (nI (posN c n)) = _ ∧ _
      unfold b_X9_cutAll_16
      by_cases e : 16 ≤ posN c n
      · rw [li 16, if_pos (nI_le e (by omega)), li 0, rA_n (by omega) (by decide), bs, (hT 0 (by omega) (by omega)).1]
        exact ⟨D, n, rfl, hP, ⟨by omega, h2⟩, hT, fun _ _ => rfl, fun _ _ => rfl⟩
      · have hi : posN c n < 16 := by omega
        have hn : n < 16 := by omega
        have pb := pc_b (c := c) hi
        rw [li 16, if_neg (nI_ge hi (by omega)), m_co hc hT hi]
        unfold f_X9_cutHere
        obtain ⟨D1, w1, p1, f1, f2⟩ := pcs_add (by decide) (by decide) (by decide) (by decide) (by decide) (by decide) hP hn
        rw [w1, bs, bs]
        dsimp only
        rw [nI_add]
        obtain ⟨D2, N, w2, p2, al, t2, g1, g2⟩ := ih (n + 1) m D1 (by show 16 ≤ posN c n + (pcN c (posN c n)).2.1 + k; omega) (fun j hj => by
          by_cases g : j = n
          · subst g; exact hi
          · exact h2 j (by omega)) (by omega) (fun j hj => by rw [f2 33 (by decide) (by decide) (by decide) (by decide)]; exact hc j hj) (fun j a b => by rw [f2 34 (by decide) (by decide) (by decide) (by decide), f2 35 (by decide) (by decide) (by decide) (by decide)]; exact hT j a b) p1
        refine ⟨D2, N, w2, p2, al, t2, fun q hq => (g1 q hq).trans (f1 q hq), fun q hq => (g2 q hq).trans (f2 q (by omega) (by omega) (by omega) (by omega))⟩
/-- the reference cuts -/
theorem m_ca {fr : Nat} (hf : fr + 16 ≤ 1234) (hc : ∀ j, j < 16 → d.2 20 (fr + j) = c j) : ∃ D N, f_X9_cutAll d (nI fr) = some (nI (TT c 0).1, D) ∧ FC d D ∧ PCS 36 37 38 39 40 D c N ∧ ALLP c N ∧ TBL 34 35 D c 0 := by
  unfold f_X9_cutAll
  obtain ⟨D1, w1, a1, b1, r1⟩ := m_tk (d := d) hf hc
  obtain ⟨D2, w2, a2, b2, t2⟩ := m_lays (d := D1) (c := c) r1
  obtain ⟨D3, w3, a3, b3, c3⟩ := pS_e D2 40 0
  rw [w1, bs, w2, bs, bs, w3]
  obtain ⟨D4, N, w4, p4, al, t4, g1, g2⟩ := m_chl (c := c) (x := nI fr) 16 0 FU D3 (by show 16 ≤ 0 + 16; omega) (fun j hj => by omega) (FU_ge (by omega)) (fun j hj => by rw [c3, b2 33 (by decide) (by decide)]; exact r1 j hj) (fun j a b => by rw [c3]; exact t2 j a b) ⟨a3, fun j hj => by omega⟩
  refine ⟨D4, N, w4, ⟨fun k hk => ?_, fun k hk => ?_⟩, p4, al, t4⟩
  · rw [g1 k hk, b3 k hk]
    unfold gS
    rw [a2, a1]
  · rw [g2 k (by omega), c3, b2 k (by omega) (by omega), b1 k (by omega)]
theorem m_al {fr : Nat} (hf : fr + 16 ≤ 1234) (hc : ∀ j, j < 16 → d.2 20 (fr + j) = c j) : ∃ D, f_X9_areAlike d (nI fr) = some (if rnN c 0 = 16 then 1 else 0, D) ∧ FC d D := by
  unfold f_X9_areAlike
  obtain ⟨D1, w1, a1, b1, r1⟩ := m_tk (d := d) hf hc
  have rb := rn_b (c := c) (i := 0) (by omega)
  rw [w1, bs, show (0 : Int32) = nI 0 from rfl, m_run r1 (by omega), bs, li 16]
  refine ⟨D1, ?_, fun k _ => by unfold gS; rw [a1], fun k hk => b1 k (by omega)⟩
  by_cases e : rnN c 0 = 16
  · rw [if_pos (by rw [e]), if_pos e]
  · rw [if_neg (fun q => e ((nI_eq (by omega) (by omega)).mp q)), if_neg e]
/-- only cells all alike cost 2 -/
theorem tt_2 : (TT c 0).1 = 2 ↔ rnN c 0 = 16 := by
  have rb := rn_b (c := c) (i := 0) (by omega)
  obtain ⟨⟨n, n1, n2, n3⟩, q3⟩ := bs_sp (r := rnN c 0) (m := mcN c 0) (T := TT c) (i := 0) (by omega) (fun j a b => TT_b j (by omega) b)
  rw [← TT_eq (by omega)] at n3 q3
  have tn := TT_b (c := c) (0 + n) (by omega) n2
  have n4 := congrArg Prod.fst n3
  dsimp only at n4
  have lg := lc_ge (r := rnN c 0) (m := mcN c 0) n1
  constructor
  · intro h
    have hn : n = 16 := by
      refine Decidable.byContradiction (fun g => ?_)
      have := tn.2.2.1 (by omega)
      omega
    subst hn
    have l2 : lcN (rnN c 0) (mcN c 0) 16 = 2 := by omega
    have mb := mc_b (c := c) (i := 0) (by omega)
    unfold lcN at l2
    by_cases g : 2 ≤ 16 ∧ 16 ≤ rnN c 0
    · omega
    · rw [if_neg g, if_neg (by omega), if_neg (by omega)] at l2
      omega
  · intro h
    have := q3 16 (by omega) (by omega)
    have l2 : lcN (rnN c 0) (mcN c 0) 16 = 2 := by
      unfold lcN
      rw [if_pos ⟨by omega, by omega⟩]
    rw [l2, show 0 + 16 = 16 from rfl, TT_16] at this
    unfold lx at this
    dsimp only at this
    have b0 := TT_b (c := c) 0 (by omega) (by omega)
    have := b0.2.2.1 (by omega)
    omega
theorem tt_b : 2 ≤ (TT c 0).1 ∧ (TT c 0).1 ≤ 32 := by
  have b0 := TT_b (c := c) 0 (by omega) (by omega)
  exact ⟨b0.2.2.1 (by omega), by omega⟩
end CQ
