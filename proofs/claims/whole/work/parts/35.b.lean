/-! (B) swap, feed -/
section SX
variable {m b sc c t p z e h d r sa : Pic} {rs : Nat → Option Q4} {st bg nd no : Nat} {X : Nat → Nat} {dw : Int64}
theorem TS.en (H : TS m sc t p z e h rs d) : ∃ en, gS h 1 = nI en ∧ en ≤ 10 := by
  rcases H with ⟨a1, a2, a3, a4, a5, a6⟩ | ⟨st, bg, nd, no, X, H⟩
  · exact a5
  · obtain ⟨na, en, _, ⟨b1, b2⟩, _⟩ := H.2.2.2.2.2.2.2.2
    exact ⟨en, b1, b2⟩
theorem x_bg {l : Nat} (h0 : gS sc 0 = nI l) (h3 : gS sc 3 = nI nd) (hnd : nd ≤ 10) (hC : CIc c) (Y : Nat → Nat) : ∃ c' t' p' z' e', f_X6_begin sc c t p z e = some (c', t', p', z', e') ∧ CIc c' ∧ (∀ j, j < 160 → e'.2 0 j = sc.2 5 j) ∧ (∀ i, i < nd → t'.2 1 i = nI (TT (fun j => e'.2 0 (16 * i + j)) 0).1) ∧ PR p' (clrX Y l) ∧ ZR z' (clrX Y l) ∧ PT p' (clrX Y l) ∧ gS p' 0 = nI l ∧ gS p' 1 = gS sc 1 ∧ gS p' 2 = gS sc 2 := by
  obtain ⟨e1, w1, a1, b1, c1⟩ := cpA_f (p := e) (q := sc) (k := 0) (k0 := 5) 160 (by decide)
  obtain ⟨c', t', f1, f2, f3⟩ := x_bgl (e := e1) (p := p) (z := z) h3 hnd nd 0 FU c t (by omega) (FU_ge (by omega)) hC (fun i hi => by omega)
  obtain ⟨p', z', w3, q1, q2, q3, q4, q5, q6⟩ := p_bg (p := p) (z := z) (X := Y) l (gS sc 1) (gS sc 2)
  refine ⟨c', t', p', z', e1, ?_, f2, b1, f3, q1, q2, q3, q4, q5, q6⟩
  unfold f_X6_begin
  rw [show cpA e 0 160 sc 5 160 0 0 160 = some e1 from w1, bs]
  show L_X6_begin_18 sc FU c t p z e1 (nI 0) = _
  rw [f1, h0, w3, bs]
theorem q_swap (H : RLX m b sc c t p z e h rs d) (x : Int32) : ∃ v m' r' sa' c' h' t' p' z' e' fl d' dw', f_X8_swap m r b sa c h t p z e x = some (v, m', r', sa', c', h', t', p', z', e', fl) ∧ f_X9_swap d dw x = some (v, d', dw') ∧ RLX m' b (if fl = 2 then sa' else sc) c' t' p' z' e' h' rs d' ∧ (fl = 0 ∨ fl = 1 ∨ fl = 2) := by
  obtain ⟨tl, T, t1, t2, t3, t4⟩ := H.2.1
  have hbad : ∃ v m' r' sa' c' h' t' p' z' e' fl d' dw', b_X8_swap_12 b x m r sa c h t p z e = some (v, m', r', sa', c', h', t', p', z', e', fl) ∧ b_X9_swap_17 x (pS d 0 0) dw = some (v, d', dw') ∧ RLX m' b (if fl = 2 then sa' else sc) c' t' p' z' e' h' rs d' ∧ (fl = 0 ∨ fl = 1 ∨ fl = 2) :=
    ⟨-1, _, _, _, _, _, _, _, _, _, 0, _, _, rfl, rfl, H.set KD.z H.2.2.2.1 2 (by decide), Or.inl rfl⟩
  have d0_25 : gS (pS d 0 0) 25 = nI tl := by rw [gS_n (by decide)]; exact t2
  by_cases g1 : x < 0
  · obtain ⟨v, m', r', sa', c', h', t', p', z', e', fl, d', dw', hb1, hb2, hb3⟩ := hbad
    exact ⟨v, m', r', sa', c', h', t', p', z', e', fl, d', dw', by unfold f_X8_swap; rw [if_pos g1]; exact hb1, by unfold f_X9_swap; rw [bs, if_pos g1]; exact hb2, hb3⟩
  · obtain ⟨n, hn, rfl⟩ := nI_of g1
    by_cases g2 : n ≤ tl
    · have g2' : nI n ≤ nI tl := nI_le g2 (by omega)
      obtain ⟨d1, u1, x1, y1, z1⟩ := pS_e d 0 0
      obtain ⟨d3, u3, x3, y3, z3⟩ := pS_e d1 26 (nI n)
      obtain ⟨d4, u4, x4, y4, z4⟩ := pS_e d3 25 0
      obtain ⟨d5, u5, x5, y5, z5⟩ := pS_e d4 27 0
      obtain ⟨d6, u6, x6, y6, z6⟩ := pS_e d5 31 0
      obtain ⟨m2, v2, p2, q2, s2⟩ := pS_e m 1 0
      have a6 : d6.2 = d.2 := by rw [z6, z5, z4, z3, z1]
      have gd6 : ∀ k, 0 < k → k ≠ 25 → k ≠ 26 → k ≠ 27 → k ≠ 31 → gS d6 k = gS d k := fun k h0 h5 h6 h7 h1 => by rw [y6 k h1, y5 k h7, y4 k h5, y3 k h6, y1 k (by omega)]
      obtain ⟨f, r', sa', d7, dw7, w1, w2, w3, w4, w5, w6⟩ := both_rs (r := r) (sc := sa) (dw := dw) (T := T) (b := b) (d := d6) (n := n) (by omega) (t4.of (by rw [a6])) (by rw [y6 26 (by decide), y5 26 (by decide), y4 26 (by decide)]; exact x3) (by rw [y6 27 (by decide)]; exact x5) x6 (H.2.2.1.of a6)
      have hf7 : f < 2 ^ 31 := by rcases w6 with w6 | w6 <;> omega
      obtain ⟨m4, v4, p4, q4, s4⟩ := pS_e m2 4 (nI f)
      have gm4 : ∀ k, k ≠ 1 → k ≠ 4 → gS m4 k = gS m k := fun k h1 h4 => by rw [q4 k h4, q2 k h1]
      rw [u1] at d0_25
      have d7_25 : gS d7 25 = nI 0 := by rw [w3.1 25 (by omega), y6 25 (by decide), y5 25 (by decide)]; exact x4
      have m4_1 : gS m4 1 = nI 0 := by rw [q4 1 (by decide)]; exact p2
      have d7_24 : d7.2 24 = d.2 24 := by rw [w3.2 24 (by omega), a6]
      by_cases f0 : f = 0
      · subst f0
        obtain ⟨nd, no, hD, hB⟩ : ∃ nd no, RDR r' sa' d7 nd no 0 ∧ BGN r' sa' d7 := by
          rcases w6 with w6 | w6
          · exact w6.2
          · omega
        obtain ⟨_, _, ⟨k3, k10, knd⟩, ⟨k4, k11, kno⟩, kc, _, ko⟩ := hD
        obtain ⟨_, l, st, bg, ⟨l1, l2, l3, l4⟩, ⟨l5, l6, l7, l8⟩, l9, l10, l11⟩ := hB
        obtain ⟨d8, V, o1, o2, o3, ⟨o4, o5, o6, o7, o8, o9⟩, o10, o11, o12, o13⟩ := m_to l1 w5 kno
        obtain ⟨c', t', p', z', e', i1, i2, i3, i4, i5, i6, i7, i8, i9, i10⟩ := x_bg (c := c) (t := t) (p := p) (z := z) (e := e) l2 k3 knd H.2.2.2.1 (fun j => V (j - 5))
        obtain ⟨en, n1, n2⟩ := H.2.2.2.2.en
        refine ⟨gS sa' 3, pS (pS m4 2 1) 3 0, r', sa', c', pS h 2 0, t', p', z', e', 2, pS (pS d8 1 0) 2 (-1), dw7, ?_, ?_, ?_, Or.inr (Or.inr rfl)⟩
        · unfold f_X8_swap
          rw [if_neg g1, t1, if_pos g2', bs, v2, w1, bs, bs, v4, p4, if_pos (by decide), bs, i1, bs]; rfl
        · unfold f_X9_swap
          rw [bs, if_neg g1, u1, d0_25, if_pos g2', bs, u3, bs, u4, bs, u5, bs, u6, w2, bs, w4, if_pos (by decide), o1, bs]
          show some (gS d8 5, pS (pS d8 1 0) 2 (-1), dw7) = _
          rw [o7, k10, k3]
        · rw [if_pos rfl]
          have gdF : ∀ k, k ≠ 1 → k ≠ 2 → gS (pS (pS d8 1 0) 2 (-1)) k = gS d8 k := fun k h1 h2 => by rw [gS_n h2, gS_n h1]
          refine ⟨⟨?_, ?_, ?_⟩, ⟨0, T, ?_, ?_, by omega, t4.of ?_⟩, ?_, i2, Or.inr ⟨st, bg, nd, no, clrX (fun j => V (j - 5)) l, ⟨?_, ?_⟩, ⟨⟨l7, l8⟩, l11, knd, kno⟩, ⟨?_, ?_, ?_, ?_⟩, ⟨l6, l10, k3, k4⟩, ?_, ⟨?_, i5, i6, IX.clr ?_ l4⟩, i7, ⟨?_, ?_, ?_, ?_, ?_⟩, ?_⟩⟩
          · rw [gS_s, gS_n (by decide), gS_s]
          · rw [gS_n (by decide), gS_n (by decide), p4, gdF 31 (by decide) (by decide), o11 31 (by decide), w4]
          · rw [gS_s, gS_s, if_neg (by decide)]
          · rw [gS_n (by decide), gS_n (by decide)]; exact m4_1
          · rw [gdF 25 (by decide) (by decide), o11 25 (by decide)]; exact d7_25
          · rw [pS_a, pS_a, o12, d7_24]
          · intro j hj
            rw [pS_a, pS_a, o13]; exact w5 j hj
          · rw [gS_n (by decide), gS_s]
          · rw [gdF 19 (by decide) (by decide)]; exact o4
          · rw [gdF 3 (by decide) (by decide), o5]; exact l5
          · rw [gdF 4 (by decide) (by decide), o6]; exact l9
          · rw [gdF 5 (by decide) (by decide), o7]; exact k10
          · rw [gdF 6 (by decide) (by decide), o8]; exact k11
          · intro i hi
            rw [pS_a, pS_a, pS_a, pS_a, pS_a, pS_a]
            obtain ⟨j1, j2, j3⟩ := o10 i (by omega)
            rw [j1, j2, j3]
            exact ko i hi
          · intro j hj
            rw [pS_a, pS_a]; exact o3 j hj
          · intro j h5 hj
            have := (o2 (j - 5) (by omega)).1
            show V (j - 5) < 2 ^ 31
            omega
          · rw [clr_0]; exact i8
          · rw [i9]; exact l6
          · rw [i10]; exact l10
          · intro j hj
            rw [i3 j (by omega), kc j (by omega), (o2 j (by omega)).2, clr_d (by omega) (by omega)]
            show nI (V j) = nI (V (5 + j - 5))
            rw [Nat.add_sub_cancel_left]
          · intro k hk
            rw [i4 k hk]
            rw [tt_cg (c := fun j => e'.2 0 (16 * k + j)) (c' := dcX (clrX (fun j => V (j - 5)) l) k)]
            intro j hj
            unfold dcX
            rw [i3 _ (by omega), kc _ (by omega), (o2 _ (by omega)).2, clr_d (by omega) (by omega)]
            show nI (V (16 * k + j)) = nI (V (5 + 16 * k + j - 5))
            rw [show 5 + 16 * k + j - 5 = 16 * k + j by omega]
          · exact ⟨0, en, ⟨by rw [gS_s]; rfl, by rw [gdF 23 (by decide) (by decide), o9]; rfl, by omega⟩, ⟨by rw [gS_n (by decide)]; exact n1, n2⟩, fun i hi => by omega⟩
      · have hfl : 0 < f ∧ f < 7 ∧ gS r' 7 = gS d7 29 := by
          rcases w6 with w6 | w6
          · exact absurd w6.1 f0
          · exact w6
        have gdF : ∀ k, k ≠ 1 → k ≠ 2 → gS (pS (pS d7 1 4) 2 (gS (pS d7 1 4) 29)) k = gS d7 k := fun k h1 h2 => by rw [gS_n h2, gS_n h1]
        refine ⟨-1, pS (pS m4 5 (gS r' 7)) 3 4, r', sa', c, h, t, p, z, e, 1, pS (pS d7 1 4) 2 (gS (pS d7 1 4) 29), dw7, ?_, ?_, ?_, Or.inr (Or.inl rfl)⟩
        · unfold f_X8_swap
          rw [if_neg g1, t1, if_pos g2', bs, v2, w1, bs, bs, v4, p4, if_neg (nI_ne0 hfl.1 hf7)]; rfl
        · unfold f_X9_swap
          rw [bs, if_neg g1, u1, d0_25, if_pos g2', bs, u3, bs, u4, bs, u5, bs, u6, w2, bs, w4, if_neg (nI_nle hfl.1 hf7)]; rfl
        rw [if_neg (by decide)]
        refine ⟨⟨?_, ?_, ?_⟩, ⟨0, T, ?_, ?_, by omega, t4.of ?_⟩, ?_, H.2.2.2.1, H.2.2.2.2.fr ?_ ⟨fun k hk => ?_, fun k hk => ?_, fun j hj => ?_⟩⟩
        · rw [gS_s, gS_n (by decide), gS_s]
        · rw [gS_n (by decide), gS_n (by decide), p4, gdF 31 (by decide) (by decide), w4]
        · rw [gS_s, gS_s, if_pos rfl, gS_n (by decide), gS_n (by decide), gS_s, hfl.2.2]
        · rw [gS_n (by decide), gS_n (by decide)]; exact m4_1
        · rw [gdF 25 (by decide) (by decide)]; exact d7_25
        · rw [pS_a, pS_a, d7_24]
        · intro j hj
          rw [pS_a, pS_a]; exact w5 j hj
        · rw [gS_n (by decide), gS_n (by decide), gm4 2 (by decide) (by decide)]
        · rw [gdF k (by omega) (by omega), w3.1 k (by omega), gd6 k (by omega) (by omega) (by omega) (by omega) (by omega)]
        · rw [pS_a, pS_a, w3.2 k (by omega), a6]
        · rw [pS_a, pS_a, w3.2 20 (by omega), a6]
    · obtain ⟨v, m', r', sa', c', h', t', p', z', e', fl, d', dw', hb1, hb2, hb3⟩ := hbad
      exact ⟨v, m', r', sa', c', h', t', p', z', e', fl, d', dw', by unfold f_X8_swap; rw [if_neg g1, t1, if_neg (nI_ge (by omega) hn)]; exact hb1, by unfold f_X9_swap; rw [bs, if_neg g1, d0_25, if_neg (nI_ge (by omega) hn)]; exact hb2, hb3⟩
end SX
