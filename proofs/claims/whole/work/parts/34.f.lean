/-! (B) reading: cells -/
def SMC (d : Pic) : Prop := ∀ j, j < 160 → ∃ v, v < 100 ∧ d.2 18 j = nI v
def OPQ (nd no : Nat) (s d : Pic) : Prop := ∀ i, i < no → ∃ w q k, (s.2 6 i = nI w ∧ d.2 15 i = nI w ∧ w < 3) ∧ (s.2 7 i = nI q ∧ d.2 16 i = nI q ∧ q < 30) ∧ s.2 8 i = d.2 17 i ∧ (w = 0 → s.2 8 i = nI k ∧ k < nd)
def BGN (r s d : Pic) : Prop := gS r 5 = 1 ∧ ∃ l st bg, (gS d 7 = nI l ∧ gS s 0 = nI l ∧ 1 ≤ l ∧ l ≤ 24) ∧ (gS d 8 = nI st ∧ gS s 1 = nI st ∧ 1 ≤ st ∧ st ≤ 4) ∧ gS d 9 = nI bg ∧ gS s 2 = nI bg ∧ bg ≤ 15
def RDR (r s d : Pic) (nd no cn : Nat) : Prop := (gS d 31 = 0 ∧ gS r 6 = 0) ∧ ((gS r 5 = 0 ∧ gS d 7 = 0) ∨ BGN r s d) ∧ (gS s 3 = nI nd ∧ gS d 10 = nI nd ∧ nd ≤ 10) ∧ (gS s 4 = nI no ∧ gS d 11 = nI no ∧ no ≤ 24) ∧ (∀ j, j < 16 * nd + cn → s.2 5 j = d.2 18 j) ∧ SMC d ∧ OPQ nd no s d
section RD
variable {r b d sc r' d' s' : Pic} {T : Nat → Nat} {N i s q κ a k w nd no n m v : Nat} {dw : Int64}
theorem SMC.of (h : SMC d) (e : d'.2 = d.2) : SMC d' := fun j hj => by rw [e]; exact h j hj
theorem BGN.fr (h : BGN r sc d) (h5 : gS r' 5 = gS r 5) (h7 : gS d' 7 = gS d 7) (h8 : gS d' 8 = gS d 8) (h9 : gS d' 9 = gS d 9) (g0 : gS s' 0 = gS sc 0) (g1 : gS s' 1 = gS sc 1) (g2 : gS s' 2 = gS sc 2) : BGN r' s' d' := by
  unfold BGN
  rw [h5, h7, h8, h9, g0, g1, g2]
  exact h
theorem RDR.fr (h : RDR r sc d nd no n) (h1 : FRr r r') (h2 : FRd d d') : RDR r' sc d' nd no n := by
  have g : ∀ k, k < 27 ∨ 30 < k → gS d' k = gS d k := fun k hk => h2.1 k (by omega) (by omega) (by omega) (by omega)
  have f : ∀ k, 4 < k → gS r' k = gS r k := fun k hk => h1.1 k (by omega) (by omega) (by omega)
  obtain ⟨⟨a1, a2⟩, a3, ⟨a4, a5, a6⟩, ⟨a7, a8, a9⟩, b1, b2, b3⟩ := h
  refine ⟨⟨by rw [g 31 (by decide)]; exact a1, by rw [f 6 (by decide)]; exact a2⟩, ?_, ⟨a4, by rw [g 10 (by decide)]; exact a5, a6⟩, ⟨a7, by rw [g 11 (by decide)]; exact a8, a9⟩, fun j hj => by rw [h2.2]; exact b1 j hj, b2.of h2.2, fun i hi => by rw [h2.2]; exact b3 i hi⟩
  rcases a3 with a3 | a3
  · left
    exact ⟨by rw [f 5 (by decide)]; exact a3.1, by rw [g 7 (by decide)]; exact a3.2⟩
  · right
    exact a3.fr (f 5 (by decide)) (g 7 (by decide)) (g 8 (by decide)) (g 9 (by decide)) rfl rfl rfl
theorem RDR.hr (h : RDR r sc d nd no n) : (gS r 5 = 0 ∧ gS d 7 = 0) ∨ (gS r 5 = 1 ∧ ¬ gS d 7 = 0) := by
  rcases h.2.1 with a | ⟨a, l, st, bg, ⟨b1, b2, b3, b4⟩, _⟩
  · exact Or.inl a
  · right
    exact ⟨a, by rw [b1]; exact nI_ne0 (by omega) (by omega)⟩
theorem TKR.d1 (h : TKR N T r d dw s a k) (e : d'.1 = d.1) : TKR N T r d' dw s a k := by
  have g : ∀ k, gS d' k = gS d k := fun k => by unfold gS; rw [e]
  unfold TKR PSR at h ⊢
  simp only [g]
  exact h
theorem x_fill (h3 : gS sc 3 = nI nd) (hnd : nd < 10) (hnm : n + m ≤ 16) : ∃ s', f_X5_addCells sc (nI v) (nI n) (nI m) = some s' ∧ s'.1 = sc.1 ∧ (∀ k, k ≠ 5 → s'.2 k = sc.2 k) ∧ ∀ j, s'.2 5 j = if 16 * nd + n ≤ j ∧ j < 16 * nd + (n + m) then nI v else sc.2 5 j := by
  have hend : (if nI n + nI m < 16 then nI n + nI m else 16) = nI (n + m) := by
    rw [nI_add]
    by_cases g : n + m < 16
    · rw [if_pos (show nI (n + m) < 16 from nI_lt (b := 16) g (by decide))]
    · rw [if_neg (show ¬ nI (n + m) < 16 from nI_nlt (b := 16) (by omega) (by omega)), show n + m = 16 by omega]; rfl
  have key : ∀ (k i f : Nat) (S : Pic), i + k = n + m → n ≤ i → k < f → S.1 = sc.1 → (∀ k, k ≠ 5 → S.2 k = sc.2 k) → (∀ j, S.2 5 j = if 16 * nd + n ≤ j ∧ j < 16 * nd + i then nI v else sc.2 5 j) → ∃ s', L_X5_addCells_13 (nI v) (nI n) (nI m) f S (nI (n + m)) (nI i) = some s' ∧ s'.1 = sc.1 ∧ (∀ k, k ≠ 5 → s'.2 k = sc.2 k) ∧ ∀ j, s'.2 5 j = if 16 * nd + n ≤ j ∧ j < 16 * nd + (n + m) then nI v else sc.2 5 j := by
    intro k
    induction k with
    | zero =>
      intro i f S h1 hi hf e1 e2 e3
      cases f with
      | zero => omega
      | succ f =>
        have : i = n + m := by omega
        subst this
        refine ⟨S, ?_, e1, e2, e3⟩
        show b_X5_addCells_13 _ _ _ _ S _ _ = _
        unfold b_X5_addCells_13
        rw [if_pos (nI_le (Nat.le_refl _) (by omega))]
    | succ k ih =>
      intro i f S h1 hi hf e1 e2 e3
      cases f with
      | zero => omega
      | succ f =>
        obtain ⟨S1, w1, a1, b1, c1⟩ := wA_e (p := S) 5 (n := 160) (j := nd * 16 + i) (nI v) (by omega) (by decide)
        have g3 : gS S 3 = nI nd := by unfold gS; rw [e1]; exact h3
        obtain ⟨s', f1, f2, f3, f4⟩ := ih (i + 1) f S1 (by omega) (by omega) (by omega) (a1.trans e1) (fun k hk => (c1 k hk).trans (e2 k hk)) (fun j => by
          rw [b1]
          by_cases g : j = nd * 16 + i
          · subst g
            rw [up_s, if_pos ⟨by omega, by omega⟩]
          · rw [up_n g, e3 j]
            by_cases g' : 16 * nd + n ≤ j ∧ j < 16 * nd + i
            · rw [if_pos g', if_pos ⟨by omega, by omega⟩]
            · rw [if_neg g', if_neg (by omega)])
        refine ⟨s', ?_, f2, f3, f4⟩
        show b_X5_addCells_13 _ _ _ _ S _ _ = _
        unfold b_X5_addCells_13
        rw [if_neg (nI_ge (by omega) (by omega)), g3, if_neg (show ¬ (10 : Int32) ≤ nI nd from nI_ge (b := 10) hnd (by decide)), show (16 : Int32) = nI 16 from rfl, nI_mul, nI_add, w1, bs, nI_1]
        exact f1
  unfold f_X5_addCells
  rw [hend]
  exact key m n FU sc rfl (Nat.le_refl _) (FU_ge (by omega)) rfl (fun _ _ => rfl) (fun j => by rw [if_neg (by omega)])
theorem m_fill (h10 : gS d 10 = nI nd) (hnd : nd < 10) (hnm : n + m ≤ 16) : ∃ d', L_X9_readSome_91 (nI n) FU d dw (nI v) (nI m) (nI n) = some (nI (n + m), d', dw) ∧ d'.1 = d.1 ∧ (∀ k, k ≠ 18 → d'.2 k = d.2 k) ∧ ∀ j, d'.2 18 j = if 16 * nd + n ≤ j ∧ j < 16 * nd + (n + m) then nI v else d.2 18 j := by
  have key : ∀ (k i f : Nat) (D : Pic), i + k = n + m → n ≤ i → k < f → D.1 = d.1 → (∀ k, k ≠ 18 → D.2 k = d.2 k) → (∀ j, D.2 18 j = if 16 * nd + n ≤ j ∧ j < 16 * nd + i then nI v else d.2 18 j) → ∃ d', L_X9_readSome_91 (nI n) f D dw (nI v) (nI m) (nI i) = some (nI (n + m), d', dw) ∧ d'.1 = d.1 ∧ (∀ k, k ≠ 18 → d'.2 k = d.2 k) ∧ ∀ j, d'.2 18 j = if 16 * nd + n ≤ j ∧ j < 16 * nd + (n + m) then nI v else d.2 18 j := by
    intro k
    induction k with
    | zero =>
      intro i f D h1 hi hf e1 e2 e3
      cases f with
      | zero => omega
      | succ f =>
        have : i = n + m := by omega
        subst this
        refine ⟨D, ?_, e1, e2, e3⟩
        show b_X9_readSome_91 _ _ D dw _ _ _ = _
        unfold b_X9_readSome_91
        rw [nI_add, if_pos (nI_le (Nat.le_refl _) (by omega))]
    | succ k ih =>
      intro i f D h1 hi hf e1 e2 e3
      cases f with
      | zero => omega
      | succ f =>
        obtain ⟨D1, w1, a1, b1, c1⟩ := wA_e (p := D) 18 (n := 160) (j := 16 * nd + i) (nI v) (by omega) (by decide)
        have g3 : gS D 10 = nI nd := by unfold gS; rw [e1]; exact h10
        obtain ⟨d', f1, f2, f3, f4⟩ := ih (i + 1) f D1 (by omega) (by omega) (by omega) (a1.trans e1) (fun k hk => (c1 k hk).trans (e2 k hk)) (fun j => by
          rw [b1]
          by_cases g : j = 16 * nd + i
          · subst g
            rw [up_s, if_pos ⟨by omega, by omega⟩]
          · rw [up_n g, e3 j]
            by_cases g' : 16 * nd + n ≤ j ∧ j < 16 * nd + i
            · rw [if_pos g', if_pos ⟨by omega, by omega⟩]
            · rw [if_neg g', if_neg (by omega)])
        refine ⟨d', ?_, f2, f3, f4⟩
        show b_X9_readSome_91 _ _ D dw _ _ _ = _
        unfold b_X9_readSome_91
        rw [nI_add, if_neg (nI_ge (by omega) (by omega)), g3, show (16 : Int32) = nI 16 from rfl, nI_mul, nI_add, w1, bs, nI_1]
        exact f1
  exact key m n FU d rfl (Nat.le_refl _) (FU_ge (by omega)) rfl (fun _ _ => rfl) (fun j => by rw [if_neg (by omega)])
/-- both put so many cells -/
theorem both_fill (hK : TKR N T r d dw s a k) (hD : RDR r sc d nd no n) (hnd : nd < 10) (hm : 1 ≤ m) (hnm : n + m ≤ 16) (hv : v < 100) : ∃ s' d', f_X5_addCells sc (nI v) (nI n) (nI m) = some s' ∧ b_X9_readSome_79 (nI n) d dw (nI v) (nI m) = some (nI (n + m), d', dw) ∧ TKR N T r d' dw s a k ∧ RDR r s' d' nd no (n + m) ∧ FDR d d' := by
  obtain ⟨⟨a1, a2⟩, a3, ⟨a4, a5, a6⟩, ⟨a7, a8, a9⟩, b1, b2, b3⟩ := hD
  obtain ⟨s', w1, e1, e2, e3⟩ := x_fill (v := v) a4 hnd hnm
  obtain ⟨d', w2, f1, f2, f3⟩ := m_fill (dw := dw) (v := v) a5 hnd hnm
  have gs : ∀ k, gS s' k = gS sc k := fun k => by unfold gS; rw [e1]
  have gd : ∀ k, gS d' k = gS d k := fun k => by unfold gS; rw [f1]
  refine ⟨s', d', w1, ?_, hK.d1 f1, ⟨⟨by rw [gd]; exact a1, a2⟩, ?_, ⟨by rw [gs]; exact a4, by rw [gd]; exact a5, a6⟩, ⟨by rw [gs]; exact a7, by rw [gd]; exact a8, a9⟩, fun j hj => ?_, fun j hj => ?_, fun i hi => ?_⟩, fun k _ => gd k, fun k hk => f2 k (by omega)⟩
  · unfold b_X9_readSome_79
    rw [a1, if_pos (by decide)]
    exact w2
  · rcases a3 with a3 | a3
    · left; rw [gd]; exact a3
    · right; exact a3.fr rfl (gd 7) (gd 8) (gd 9) (gs 0) (gs 1) (gs 2)
  · rw [e3, f3]
    by_cases g : 16 * nd + n ≤ j ∧ j < 16 * nd + (n + m)
    · rw [if_pos g, if_pos g]
    · rw [if_neg g, if_neg g]; exact b1 j (by omega)
  · rw [f3]
    by_cases g : 16 * nd + n ≤ j ∧ j < 16 * nd + (n + m)
    · rw [if_pos g]; exact ⟨v, hv, rfl⟩
    · rw [if_neg g]; exact b2 j hj
  · rw [e2 6 (by decide), e2 7 (by decide), e2 8 (by decide), f2 15 (by decide), f2 16 (by decide), f2 17 (by decide)]
    exact b3 i hi
/-- too many cells, at a whole ahead -/
theorem both_tm {r1 : Pic} (hK : TKR N T r d dw s a k) (h31 : gS d 31 = 0) : ∃ r' d', f_X4_tooMany r1 (gS r 3) = some (0, r') ∧ f_X9_flaw d 6 = some d' ∧ FLT r' d' ∧ FDR d d' ∧ d'.2 = d.2 := by
  obtain ⟨_, d', _, f2, f3, f4, f5⟩ := both_fail hK h31 (c := 6) (by decide) (by decide)
  obtain ⟨d1, v1, x1, y1, z1⟩ := pS_e d 31 (nI 6)
  obtain ⟨d2, v2, x2, y2, z2⟩ := pS_e d1 28 0
  have ed : f_X9_flaw d 6 = some d2 := by
    unfold f_X9_flaw b_X9_flaw_12
    rw [if_pos h31, bs, show pS d 31 6 = d1 from v1, bs, v2]
  have e : d' = d2 := Option.some.inj (f2.symm.trans ed)
  subst e
  obtain ⟨r2, w2, a2, b2, c2⟩ := pS_e r1 6 6
  obtain ⟨r3, w3, a3, b3, c3⟩ := pS_e r2 7 (gS r 3)
  refine ⟨r3, d', ?_, f2, ⟨f3.1, ?_, ?_⟩, f4, f5⟩
  · unfold f_X4_tooMany
    rw [bs, w2, bs, w3]
  · rw [b3 6 (by decide), a2, y2 31 (by decide), x1]; rfl
  · rw [a3, y2 29 (by decide), y1 29 (by decide), hK.2.1.1, hK.2.1.2.1]
theorem both_ce (hK : TKR N T r d dw s a k) (hT : TPE b d T) (hD : RDR r sc d nd no n) (hnd : nd < 10) (hn : n ≤ 16) : (∃ m r' s' d' dw' s1 a1 k1, 1 ≤ m ∧ n + m ≤ 16 ∧ f_X4_readCells r b sc (nI n) = some (nI (n + m), r', s') ∧ f_X9_readSome d dw (nI n) = some (nI (n + m), d', dw') ∧ TKR N T r' d' dw' s1 a1 k1 ∧ s < s1 ∧ RDR r' s' d' nd no (n + m) ∧ gS r' 5 = gS r 5 ∧ FDR d d') ∨ (∃ v r' s' d' dw', f_X4_readCells r b sc (nI n) = some (0, r', s') ∧ f_X9_readSome d dw (nI n) = some (v, d', dw') ∧ FLT r' d' ∧ SMC d' ∧ FDR d d') := by
  have h31 := hD.1.1
  have hsm : SMC d := hD.2.2.2.2.2.1
  rcases both_wh hK hT h31 (lo := 0) (H := 100) (hiI := 99) (by decide) (hh_c 99 (by decide)) with ⟨v, v1, v2, v3, e1, e2, e3, e4⟩ | ⟨r', d', e1, e2, e3, e4, e5⟩
  · obtain ⟨r1, d1, dw1, s1, a1, k1, f1, f2, f3, f4, f5, f6⟩ := both_adv (dw := dw) e3 hT h31
    have et : f_X4_takeWhole r b 0 99 = some (nI v, r1) := by
      rw [show f_X4_takeWhole r b 0 99 = _ from e1, f1, bs]
    have em : f_X9_readSome d dw (nI n) = if nI n = 16 then (f_X9_flaw d 6).bind fun u9 => b_X9_readSome_27 (nI n) u9 dw (nI v) else b_X9_readSome_27 (nI n) d dw (nI v) := by
      unfold f_X9_readSome
      rw [show f_X9_wholeAt d 0 99 = _ from e2, bs, if_pos h31]
    have ex : f_X4_readCells r b sc (nI n) = if nI n < 16 then (f_X4_isWord r1 b 5).bind fun u2 => if u2 = 0 then b_X4_readCells_68 b (nI n) r1 sc (gS r 3) (nI v) 1 else (f_X4_advance r1 b).bind fun u5 => (f_X4_takeWhole u5 b 1 16).bind fun u6 => if 0 ≤ u6.1 then b_X4_readCells_68 b (nI n) u6.2 sc (gS u5 3) (nI v) u6.1 else some (0, u6.2, sc) else (f_X4_tooMany r1 (gS r 3)).bind fun u7 => some (u7.1, u7.2, sc) := by
      unfold f_X4_readCells
      rw [et, bs, if_pos (nI_pos' (by omega))]
    by_cases g16 : n = 16
    · right
      subst g16
      obtain ⟨r', d', w1, w2, w3, w4, w5⟩ := both_tm (r1 := r1) hK h31
      refine ⟨nI 16, r', sc, d', dw, ?_, ?_, w3, hsm.of w5, w4⟩
      · rw [ex, if_neg (by decide), w1, bs]
      · rw [em, if_pos (by decide), w2, bs, fl_27 w3.1]
    · rw [if_neg (show ¬ nI n = 16 from fun x => g16 ((nI_eq (b := 16) (by omega) (by decide)).mp x))] at em
      rw [if_pos (show nI n < 16 from nI_lt (b := 16) (by omega) (by decide))] at ex
      have h31' : gS d1 31 = 0 := by rw [f6.1 31 (by decide) (by decide) (by decide) (by decide)]; exact h31
      have hT1 : TPE b d1 T := hT.of (by rw [f6.2])
      have hD1 := hD.fr f5 f6
      obtain ⟨v0, w1, w2, w3⟩ := both_wd f3 hT1 (w := 5) (by decide)
      rw [w1, bs] at ex
      have em2 : f_X9_readSome d dw (nI n) = if v0 = 0 then b_X9_readSome_79 (nI n) d1 dw1 (nI v) 1 else (f_X9_goOn d1 dw1).bind fun u5 => (f_X9_wholeAt u5.1 1 16).bind fun u6 => if (gS u6.2 31) = 0 then if (nI n + u6.1) ≤ 16 then b_X9_readSome_75 (nI n) u6.2 u5.2 (nI v) u6.1 else (f_X9_flaw u6.2 6).bind fun u8 => b_X9_readSome_75 (nI n) u8 u5.2 (nI v) u6.1 else b_X9_readSome_75 (nI n) u6.2 u5.2 (nI v) u6.1 := by
        rw [em]
        unfold b_X9_readSome_27
        rw [f2, bs, w2, bs]
      rcases w3 with w3 | ⟨w3, w4⟩
      · left
        subst w3
        obtain ⟨s', d', q1, q2, q3, q4, q5⟩ := both_fill (v := v) (m := 1) f3 hD1 hnd (by decide) (by omega) v2
        refine ⟨1, r1, s', d', dw1, s1, a1, k1, by decide, by omega, ?_, ?_, q3, by omega, q4, f5.1 5 (by decide) (by decide) (by decide), f6.fr.tr q5⟩
        · rw [ex, if_pos rfl]
          unfold b_X4_readCells_68
          rw [nI_1, if_pos (show nI (n + 1) ≤ 16 from nI_le (b := 16) (by omega) (by decide)), show f_X5_addCells sc (nI v) (nI n) 1 = some s' from q1, bs]
        · rw [em2, if_pos rfl]
          exact q2
      · subst w3
        rw [if_neg (by decide)] at ex em2
        have hPS : PSR N r1 d1 a1 ∧ s1 < a1 := by
          rcases f3.2.2.2 with h | h | h | h | h | h
          · omega
          · exact ⟨h.2.2.1, h.2.2.2.1⟩
          · omega
          · omega
          · omega
          · omega
        obtain ⟨r2, d2, dw2, s2, a2, k2, j1, j2, j3, j4, j5, j6⟩ := both_adv (dw := dw1) hPS.1 hT1 h31'
        have h31'' : gS d2 31 = 0 := by rw [j6.1 31 (by decide) (by decide) (by decide) (by decide)]; exact h31'
        have hT2 : TPE b d2 T := hT1.of (by rw [j6.2])
        have hD2 := hD1.fr j5 j6
        rw [j1, bs] at ex
        rw [j2, bs] at em2
        rcases both_wh j3 hT2 h31'' (lo := 1) (H := 17) (hiI := 16) (by decide) (hh_c 16 (by decide)) with ⟨m, m1, m2, m3, y1, y2, y3, y4⟩ | ⟨r', d', y1, y2, y3, y4, y5⟩
        · obtain ⟨r3, d3, dw3, s3, a3, k3, z1, z2, z3, z4, z5, z6⟩ := both_adv (dw := dw2) y3 hT2 h31''
          have et2 : f_X4_takeWhole r2 b 1 16 = some (nI m, r3) := by
            rw [show f_X4_takeWhole r2 b 1 16 = _ from y1, z1, bs]
          rw [et2, bs, if_pos (nI_pos' (by omega))] at ex
          rw [show f_X9_wholeAt d2 1 16 = _ from y2, bs, if_pos h31'', nI_add] at em2
          by_cases gm : n + m ≤ 16
          · left
            have hD3 := hD2.fr z5 z6
            obtain ⟨s', d', q1, q2, q3, q4, q5⟩ := both_fill (v := v) (m := m) z3 hD3 hnd m1 gm v2
            refine ⟨m, r3, s', d', dw3, s3, a3, k3, m1, gm, ?_, ?_, q3, by omega, q4, ?_, ((f6.tr j6).tr z6).fr.tr q5⟩
            · rw [ex]
              unfold b_X4_readCells_68
              rw [nI_add, if_pos (show nI (n + m) ≤ 16 from nI_le (b := 16) gm (by decide)), q1, bs]
            · rw [em2, if_pos (show nI (n + m) ≤ 16 from nI_le (b := 16) gm (by decide))]
              unfold b_X9_readSome_75
              rw [z2, bs]
              exact q2
            · rw [z5.1 5 (by decide) (by decide) (by decide), j5.1 5 (by decide) (by decide) (by decide), f5.1 5 (by decide) (by decide) (by decide)]
          · right
            obtain ⟨r', d', w1, w2, w3, w4, w5⟩ := both_tm (r1 := r3) j3 h31''
            refine ⟨nI n, r', sc, d', dw2, ?_, ?_, w3, ((hsm.of f6.2).of j6.2).of w5, (f6.tr j6).fr.tr w4⟩
            · rw [ex]
              unfold b_X4_readCells_68
              rw [nI_add, if_neg (show ¬ nI (n + m) ≤ 16 from nI_ge (a := 16) (by omega) (by omega)), w1, bs]
            · rw [em2, if_neg (show ¬ nI (n + m) ≤ 16 from nI_ge (a := 16) (by omega) (by omega)), w2, bs, fl_75 w3.1]
        · right
          refine ⟨nI n, r', sc, d', dw2, ?_, ?_, y3, ((hsm.of f6.2).of j6.2).of y5, (f6.tr j6).fr.tr y4⟩
          · rw [ex, show f_X4_takeWhole r2 b 1 16 = _ from y1, bs, if_neg (show ¬ (0 : Int32) ≤ -1 by decide)]
          · rw [em2, show f_X9_wholeAt d2 1 16 = _ from y2, bs, if_neg y3.1.n.1, fl_75 y3.1]
  · right
    refine ⟨nI n, r', sc, d', dw, ?_, ?_, e3, hsm.of e5, e4⟩
    · unfold f_X4_readCells
      rw [show f_X4_takeWhole r b 0 99 = _ from e1, bs, if_neg (show ¬ (0 : Int32) ≤ -1 by decide)]
    · unfold f_X9_readSome
      rw [show f_X9_wholeAt d 0 99 = _ from e2, bs, if_neg e3.1.n.1, fl_27 e3.1]
end RD
