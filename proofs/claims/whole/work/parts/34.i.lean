/-! (B) reading: data lines, all lines, the whole text -/
section LD
variable {r b d sc r' d' s' : Pic} {T : Nat → Nat} {N i s q κ a k w nd no n m v p x : Nat} {dw : Int64}
theorem fin_da (hK : TKR N T r d dw s a k) (hD : RDR r sc d nd no n) (hB : BGN r sc d) (hnd : nd < 10) (hn1 : 1 ≤ n) (hn : n ≤ 16) (hk : k ≠ 4) (hp : p ≤ s) : ∃ c r' s' d', b_X4_readData_46 b r sc (nI n) = some (c, r', s') ∧ (if 16 ≤ nI n then b_X9_readDataLine_75 d dw else (f_X9_isSign d 59).bind fun u5 => if u5 = 0 then if (gS d 28) = 1 then b_X9_readDataLine_69 d dw else b_X9_readDataLine_75 d dw else b_X9_readDataLine_69 d dw) = some (d', dw) ∧ LNO N T p c r' s' d d' dw := by
  obtain ⟨⟨m1, m2⟩, m3, ⟨m4, m5, m6⟩, ⟨m7, m8, m9⟩, n1, n2, n3⟩ := hD
  obtain ⟨d1, u1, a1, b1, c1⟩ := pS_e d 10 (nI nd + 1)
  have e75 : b_X9_readDataLine_75 d dw = some (d1, dw) := by
    unfold b_X9_readDataLine_75
    rw [if_pos m1, m5, bs, u1]
  have hF : FDR d d1 := ⟨fun k hk => b1 k (by omega), fun k hk => by rw [c1]⟩
  have sg := m_sg hK (c := 59) (Or.inl rfl)
  by_cases gk : k = 0 ∨ k = 3
  · by_cases g16 : n = 16
    · obtain ⟨s1, x1, e1, f1, g1⟩ := pS_e sc 3 (nI nd + 1)
      have hB4 : BGN r s1 d1 := hB.fr rfl (b1 7 (by decide)) (b1 8 (by decide)) (b1 9 (by decide)) (f1 0 (by decide)) (f1 1 (by decide)) (f1 2 (by decide))
      refine ⟨1, r, s1, d1, ?_, ?_, hF, Or.inl ⟨rfl, s, a, k, nd + 1, no, ?_, hp, gk, ⟨⟨by rw [b1 31 (by decide)]; exact m1, m2⟩, Or.inr hB4, ⟨by rw [e1, nI_1], by rw [a1, nI_1], by omega⟩, ⟨by rw [f1 4 (by decide)]; exact m7, by rw [b1 11 (by decide)]; exact m8, m9⟩, fun j hj => ?_, n2.of c1, fun i hi => ?_⟩, hB4⟩⟩
      · unfold b_X4_readData_46
        rw [if_pos (show (0 : Int32) < nI n from nI_lt (a := 0) hn1 (by omega)), le_ok hK, if_pos gk, bs, if_neg (by decide), if_pos (show (16 : Int32) ≤ nI n from nI_le (a := 16) (by omega) (by omega)), m4, bs, x1]
      · rw [if_pos (show (16 : Int32) ≤ nI n from nI_le (a := 16) (by omega) (by omega)), e75]
      · have q2 : ∀ k, 25 < k → gS d1 k = gS d k := fun k hk => b1 k (by omega)
        unfold TKR PSR at hK ⊢
        rw [q2 26 (by decide), q2 27 (by decide), q2 28 (by decide), q2 29 (by decide), q2 30 (by decide)]
        exact hK
      · rw [g1, c1]
        exact n1 j (by omega)
      · rw [g1, c1]
        obtain ⟨w, q, kk, i1, i2, i3, i4⟩ := n3 i hi
        exact ⟨w, q, kk, i1, i2, i3, fun hw => ⟨(i4 hw).1, by have := (i4 hw).2; omega⟩⟩
    · obtain ⟨r', d', w1, w2, w3, w4, w5⟩ := both_fail hK m1 (c := 6) (by decide) (by decide)
      have e69 : b_X9_readDataLine_69 d dw = some (d', dw) := by
        unfold b_X9_readDataLine_69
        rw [show f_X9_flaw d 6 = _ from w2, bs, fl_75d w3.1]
      refine ⟨0, r', sc, d', ?_, ?_, bad_l w4 (n2.of w5) w3⟩
      · unfold b_X4_readData_46
        rw [if_pos (show (0 : Int32) < nI n from nI_lt (a := 0) hn1 (by omega)), le_ok hK, if_pos gk, bs, if_neg (by decide), if_neg (show ¬ (16 : Int32) ≤ nI n from nI_ge (b := 16) (by omega) (by decide)), show f_X4_fail r 6 = _ from w1, bs, okZ0, bs]
      · rw [if_neg (show ¬ (16 : Int32) ≤ nI n from nI_ge (b := 16) (by omega) (by decide)), show f_X9_isSign d 59 = _ from sg, bs]
        by_cases g3 : k = 3
        · rw [if_neg (by rw [if_pos (Or.inl ⟨g3, rfl⟩)]; decide), e69]
        · rw [if_pos (by rw [if_neg (by omega)]), if_pos ((m_en hK).mpr (by omega)), e69]
  · obtain ⟨r8, l1, l2⟩ := late hK m1 gk
    refine ⟨0, r8, sc, d1, ?_, ?_, hF, Or.inr ⟨rfl, n2.of c1, Or.inr (l2.of (fun k hk => b1 k (by omega)))⟩⟩
    · unfold b_X4_readData_46
      rw [if_pos (show (0 : Int32) < nI n from nI_lt (a := 0) hn1 (by omega)), le_ok hK, if_neg gk, bs, if_pos rfl, l1, bs, okZ0, bs]
    · by_cases g16 : (16 : Int32) ≤ nI n
      · rw [if_pos g16, e75]
      · rw [if_neg g16, show f_X9_isSign d 59 = _ from sg, bs, if_pos (by rw [if_neg (by omega)]), if_neg (fun x => gk (Or.inl ((m_en hK).mp x))), e75]
theorem both_dl (hnd : nd < 10) : ∀ (m n v f1 f2 : Nat) (r sc d : Pic) (dw : Int64) (s a k : Nat), n + m = 16 → 1 ≤ n → v + 1 ≤ n → m + 1 < f1 → m + 1 < f2 → p ≤ s → TKR N T r d dw s a k → TPE b d T → RDR r sc d nd no n → BGN r sc d → ∃ c r' s' d' dw', L_X4_readData_12 b f1 r sc (nI n) (nI v) = some (c, r', s') ∧ L_X9_readDataLine_24 f2 d dw (nI n) = some (d', dw') ∧ LNO N T p c r' s' d d' dw' := by
  intro m
  induction m using Nat.strongRecOn with
  | ind m ih =>
    intro n v f1 f2 r sc d dw s a k h1 h2 h3 h4 h5 hp hK hT hD hB
    obtain ⟨f1, rfl⟩ : ∃ f, f1 = f + 2 := ⟨f1 - 2, by omega⟩
    obtain ⟨f2, rfl⟩ : ∃ f, f2 = f + 2 := ⟨f2 - 2, by omega⟩
    have sg := m_sg hK (c := 44) (Or.inr rfl)
    have h7 := hK.k7
    have ex : L_X4_readData_12 b (f1 + 2) r sc (nI n) (nI v) = if nI k = 4 then (f_X4_advance r b).bind fun u9 => (f_X4_readCells u9 b sc (nI n)).bind fun u10 => L_X4_readData_12 b (f1 + 1) u10.2.1 u10.2.2 u10.1 (nI (v + 1)) else b_X4_readData_46 b r sc (nI n) := by
      show b_X4_readData_12 b _ r sc _ _ = _
      unfold b_X4_readData_12
      rw [if_neg (nI_nle (by omega) (by omega)), hK.2.2.1, if_neg (show ¬ (16 : Int32) < nI v from nI_nlt (a := 16) (by omega) (by decide)), nI_1]
    have em : L_X9_readDataLine_24 (f2 + 2) d dw (nI n) = (f_X9_isSign d 44).bind fun u3 => if u3 = 0 then if 16 ≤ nI n then b_X9_readDataLine_75 d dw else (f_X9_isSign d 59).bind fun u5 => if u5 = 0 then if (gS d 28) = 1 then b_X9_readDataLine_69 d dw else b_X9_readDataLine_75 d dw else b_X9_readDataLine_69 d dw else (f_X9_goOn d dw).bind fun u7 => (f_X9_readSome u7.1 u7.2 (nI n)).bind fun u8 => L_X9_readDataLine_24 (f2 + 1) u8.2.1 u8.2.2 u8.1 := rfl
    by_cases g4 : k = 4
    · have hPS := hK.ps1 (Or.inr (Or.inr g4))
      rw [if_pos (Or.inr ⟨g4, rfl⟩)] at sg
      obtain ⟨r1, d1, dw1, s1, a1, k1', f1', f2', f3, f4, f5, f6⟩ := both_adv (dw := dw) hPS.1 hT hD.1.1
      have t1 : TPE b d1 T := hT.of (by rw [f6.2])
      have hB1 : BGN r1 sc d1 := by
        have hh : ∀ k, k < 27 → gS d1 k = gS d k := fun k hk => f6.1 k (by omega) (by omega) (by omega) (by omega)
        exact hB.fr (f5.1 5 (by decide) (by decide) (by decide)) (hh 7 (by decide)) (hh 8 (by decide)) (hh 9 (by decide)) rfl rfl rfl
      rw [if_pos (by rw [g4]; rfl), f1', bs] at ex
      rw [show f_X9_isSign d 44 = _ from sg, bs, if_neg (by decide), f2', bs] at em
      rcases both_ce f3 t1 (hD.fr f5 f6) hnd (by omega) with ⟨m', r2, s2, d2, dw2, q2, a2, k2, y1, y2, y3, y4, y5, y6, y7, y8, y9⟩ | ⟨v', r', s', d', dw', y1, y2, y3, y4, y5⟩
      · rw [y3, bs] at ex
        rw [y4, bs] at em
        have hB2 : BGN r2 s2 d2 := by
          rcases y7.2.1 with h | h
          · exact absurd (h.1.symm.trans (y8.trans hB1.1)) (by decide)
          · exact h
        obtain ⟨c, r', s', d', dw', z1, z2, z3⟩ := ih (m - m') (by omega) (n + m') (v + 1) (f1 + 1) (f2 + 1) r2 s2 d2 dw2 q2 a2 k2 (by omega) (by omega) (by omega) (by omega) (by omega) (by omega) y5 (t1.of (y9.2 24 (by decide))) y7 hB2
        exact ⟨c, r', s', d', dw', by rw [ex, z1], by rw [em, z2], z3.tr (f6.fr.tr y9)⟩
      · refine ⟨0, r', s', d', dw', ?_, ?_, bad_l (f6.fr.tr y5) y4 y3⟩
        · rw [ex, y1, bs]
          show b_X4_readData_12 b _ r' s' 0 _ = _
          unfold b_X4_readData_12 b_X4_readData_46
          rw [if_pos (by decide), if_neg (by decide)]
        · rw [em, y2, bs, fl_24 y3.1]
    · rw [if_neg (by omega)] at sg
      obtain ⟨c, r', s', d', z1, z2, z3⟩ := fin_da (b := b) (p := p) hK hD hB hnd h2 (by omega) g4 hp
      refine ⟨c, r', s', d', dw, ?_, ?_, z3⟩
      · rw [ex, if_neg (show ¬ nI k = 4 from fun w => g4 ((nI_eq (b := 4) (by omega) (by decide)).mp w)), z1]
      · rw [em, show f_X9_isSign d 44 = _ from sg, bs, if_pos rfl, z2]
theorem both_da (hK : TKR N T r d dw s a k) (k1 : k = 1) (hT : TPE b d T) (hD : RDR r sc d nd no 0) : ∃ c r' s' d' dw', ((f_X4_mayCome r (gS sc 3) 10).bind fun u8 => if u8.1 = 0 then some (0, u8.2, sc) else (f_X4_readData u8.2 b sc).bind fun u9 => if u9.1 = 0 then some (0, u9.2.1, u9.2.2) else some (1, u9.2.1, u9.2.2)) = some (c, r', s') ∧ f_X9_readDataLine d dw = some (d', dw') ∧ LNO N T (s + 1) c r' s' d d' dw' := by
  have h31 := hD.1.1
  have hsm : SMC d := hD.2.2.2.2.2.1
  have m7 := hD.2.2.1
  have hPS := hK.ps1 (Or.inl k1)
  have em : f_X9_readDataLine d dw = b_X9_readDataLine_15 d dw (if nd = 10 then 1 else 0) := by
    unfold f_X9_readDataLine
    by_cases g : nd = 10
    · rw [if_pos (by rw [m7.2.1, g]; rfl), if_pos g]
    · rw [if_neg (by rw [m7.2.1]; exact fun w => g ((nI_eq (b := 10) (by omega) (by decide)).mp w)), if_neg g]
  rcases both_may (h := nd) (R := 10) (x := if nd = 10 then 1 else 0) hK h31 hD.hr m7.2.2 (by decide) rfl with ⟨w1, w2, w3, w4⟩ | ⟨r', d', w1, w2, w3, w4, w5⟩
  · have hB : BGN r sc d := by
      rcases hD.2.1 with h | h
      · exact absurd (h.1.symm.trans w2) (by decide)
      · exact h
    obtain ⟨r1, d1, dw1, s1, a1, k1', f1, f2, f3, f4, f5, f6⟩ := both_adv (dw := dw) hPS.1 hT h31
    have t1 : TPE b d1 T := hT.of (by rw [f6.2])
    have hB1 : BGN r1 sc d1 := by
      have hh : ∀ k, k < 27 → gS d1 k = gS d k := fun k hk => f6.1 k (by omega) (by omega) (by omega) (by omega)
      exact hB.fr (f5.1 5 (by decide) (by decide) (by decide)) (hh 7 (by decide)) (hh 8 (by decide)) (hh 9 (by decide)) rfl rfl rfl
    have em1 : f_X9_readDataLine d dw = (f_X9_readSome d1 dw1 0).bind fun u2 => L_X9_readDataLine_24 FU u2.2.1 u2.2.2 u2.1 := by
      rw [em]
      unfold b_X9_readDataLine_15
      rw [w4, f2, bs]
    have ex : f_X4_readData r b sc = (f_X4_readCells r1 b sc 0).bind fun u2 => L_X4_readData_12 b FU u2.2.1 u2.2.2 u2.1 0 := by
      unfold f_X4_readData
      rw [f1, bs]
    suffices h : ∃ c r' s' d' dw', f_X4_readData r b sc = some (c, r', s') ∧ f_X9_readDataLine d dw = some (d', dw') ∧ LNO N T (s + 1) c r' s' d d' dw' by
      obtain ⟨c, r', s', d', dw', h1, h2, h3⟩ := h
      refine ⟨c, r', s', d', dw', ?_, h2, h3⟩
      rw [m7.1, show f_X4_mayCome r (nI nd) 10 = _ from w3, bs, if_neg (show ¬ (1 : Int32) = 0 by decide), h1, bs]
      rcases h3.c with hc | hc
      · rw [hc, if_pos rfl]
      · rw [hc, if_neg (show ¬ (1 : Int32) = 0 by decide)]
    rcases both_ce (n := 0) f3 t1 (hD.fr f5 f6) w1 (by omega) with ⟨m', r2, s2, d2, dw2, q2, a2, k2, y1, y2, y3, y4, y5, y6, y7, y8, y9⟩ | ⟨v', r', s', d', dw', y1, y2, y3, y4, y5⟩
    · have hB2 : BGN r2 s2 d2 := by
        rcases y7.2.1 with h | h
        · exact absurd (h.1.symm.trans (y8.trans hB1.1)) (by decide)
        · exact h
      obtain ⟨c, r', s', d', dw', z1, z2, z3⟩ := both_dl (b := b) (p := s + 1) w1 (16 - (0 + m')) (0 + m') 0 FU FU r2 s2 d2 dw2 q2 a2 k2 (by omega) (by omega) (by omega) (FU_ge (by omega)) (FU_ge (by omega)) (by omega) y5 (t1.of (y9.2 24 (by decide))) y7 hB2
      refine ⟨c, r', s', d', dw', ?_, ?_, z3.tr (f6.fr.tr y9)⟩
      · rw [ex, show f_X4_readCells r1 b sc 0 = _ from y3, bs]
        exact z1
      · rw [em1, show f_X9_readSome d1 dw1 0 = _ from y4, bs]
        exact z2
    · refine ⟨0, r', s', d', dw', ?_, ?_, bad_l (f6.fr.tr y5) y4 y3⟩
      · rw [ex, show f_X4_readCells r1 b sc 0 = _ from y1, bs]
        show b_X4_readData_12 b (L_X4_readData_12 b 11999) r' s' 0 0 = _
        unfold b_X4_readData_12 b_X4_readData_46
        rw [if_pos (by decide), if_neg (by decide)]
      · rw [em1, show f_X9_readSome d1 dw1 0 = _ from y2, bs]
        exact fl_24 y3.1 11999 v'
  · refine ⟨0, r', sc, d', dw, ?_, ?_, bad_l w4 (hsm.of w5) w3⟩
    · rw [m7.1, show f_X4_mayCome r (nI nd) 10 = _ from w1, bs, if_pos rfl]
    · rw [em]
      unfold b_X9_readDataLine_15
      rw [w2, bs, fl_so w3.1, bs]
      exact fl_24 w3.1 11999 0
/-- a line -/
theorem both_li (hK : TKR N T r d dw s a k) (hT : TPE b d T) (hD : RDR r sc d nd no 0) : ∃ c r' s' d' dw', f_X4_readLine r b sc = some (c, r', s') ∧ f_X9_readLine d dw = some (d', dw') ∧ LNO N T (s + 1) c r' s' d d' dw' := by
  have h31 := hD.1.1
  have hsm : SMC d := hD.2.2.2.2.2.1
  obtain ⟨v0, x0, y0, z0⟩ := both_wd hK hT (w := 0) (by decide)
  obtain ⟨v4, x4, y4, z4⟩ := both_wd hK hT (w := 4) (by decide)
  obtain ⟨v6, x6, y6, z6⟩ := both_wd hK hT (w := 6) (by decide)
  obtain ⟨v7, x7, y7, z7⟩ := both_wd hK hT (w := 7) (by decide)
  obtain ⟨v8, x8, y8, z8⟩ := both_wd hK hT (w := 8) (by decide)
  unfold f_X4_readLine f_X9_readLine
  rw [x0, y0, bs, bs]
  rcases z0 with z0 | ⟨z0, k1⟩
  · subst z0
    rw [if_pos rfl, if_pos rfl, x4, y4, bs, bs]
    rcases z4 with z4 | ⟨z4, k1⟩
    · subst z4
      rw [if_pos rfl, if_pos rfl]
      have opc : ∀ x : Nat, x < 3 → k = 1 → ∃ c r' s' d' dw', ((some (nI x)).bind fun u3 => if 0 ≤ u3 then (f_X4_mayCome r (gS sc 4) 24).bind fun u4 => if u4.1 = 0 then some (0, u4.2, sc) else (f_X4_readOp u4.2 b sc u3).bind fun u5 => if u5.1 = 0 then some (0, u5.2.1, u5.2.2) else some (1, u5.2.1, u5.2.2) else (f_X4_fail r 1).bind fun u6 => (okZ u6.1).bind fun z7_ => some (z7_, u6.2, sc)) = some (c, r', s') ∧ ((f_X9_readOp d dw (nI x)).bind fun u9 => some (u9.1, u9.2)) = some (d', dw') ∧ LNO N T (s + 1) c r' s' d d' dw' := by
        intro x hx k1
        obtain ⟨c, r', s', d', dw', q1, q2, q3⟩ := both_op hK k1 hT hD hx
        exact ⟨c, r', s', d', dw', by rw [bs, if_pos (nI_pos' (by omega)), q1], by rw [bpe, q2], q3⟩
      have i10 : ¬ (1 : Int32) = 0 := by decide
      rcases z6 with z6 | ⟨z6, k1⟩
      · subst z6
        rcases z7 with z7 | ⟨z7, k1⟩
        · subst z7
          rcases z8 with z8 | ⟨z8, k1⟩
          · subst z8
            obtain ⟨r', d', w1, w2, w3, w4, w5⟩ := both_fail hK h31 (c := 1) (by decide) (by decide)
            refine ⟨0, r', sc, d', dw, ?_, ?_, bad_l w4 (hsm.of w5) w3⟩
            · have eo : f_X4_opOfWord r b = some (-1) := by
                unfold f_X4_opOfWord
                rw [x6, bs, if_pos rfl, x7, bs, if_pos rfl, x8, bs, if_pos rfl]
              rw [eo, bs, if_neg (by decide), show f_X4_fail r 1 = _ from w1, bs, okZ0, bs]
            · rw [y6, bs, if_pos rfl, y7, bs, if_pos rfl, y8, bs, if_pos rfl, show f_X9_flaw d 1 = _ from w2, bs]
          · subst z8
            obtain ⟨c, r', s', d', dw', q1, q2, q3⟩ := opc 2 (by decide) k1
            refine ⟨c, r', s', d', dw', ?_, ?_, q3⟩
            · have eo : f_X4_opOfWord r b = some (nI 2) := by
                unfold f_X4_opOfWord
                rw [x6, bs, if_pos rfl, x7, bs, if_pos rfl, x8, bs, if_neg i10]; rfl
              rw [eo]; exact q1
            · rw [y6, bs, if_pos rfl, y7, bs, if_pos rfl, y8, bs, if_neg i10]; exact q2
        · subst z7
          obtain ⟨c, r', s', d', dw', q1, q2, q3⟩ := opc 1 (by decide) k1
          refine ⟨c, r', s', d', dw', ?_, ?_, q3⟩
          · have eo : f_X4_opOfWord r b = some (nI 1) := by
              unfold f_X4_opOfWord
              rw [x6, bs, if_pos rfl, x7, bs, if_neg i10]; rfl
            rw [eo]; exact q1
          · rw [y6, bs, if_pos rfl, y7, bs, if_neg i10]; exact q2
      · subst z6
        obtain ⟨c, r', s', d', dw', q1, q2, q3⟩ := opc 0 (by decide) k1
        refine ⟨c, r', s', d', dw', ?_, ?_, q3⟩
        · have eo : f_X4_opOfWord r b = some (nI 0) := by
            unfold f_X4_opOfWord
            rw [x6, bs, if_neg i10]; rfl
          rw [eo]; exact q1
        · rw [y6, bs, if_neg i10]; exact q2
    · subst z4
      rw [if_neg (show ¬ (1 : Int32) = 0 by decide), if_neg (show ¬ (1 : Int32) = 0 by decide), bpe]
      exact both_da hK k1 hT hD
  · subst z0
    rw [if_neg (show ¬ (1 : Int32) = 0 by decide), if_neg (show ¬ (1 : Int32) = 0 by decide), bpe]
    unfold f_X9_readSwap
    rcases hD.hr with ⟨h5, h7⟩ | ⟨h5, h7⟩
    · rw [if_pos h5, if_pos (by rw [h7]; decide)]
      obtain ⟨c, r', s', d', dw', q1, q2, q3⟩ := both_sw hK k1 hT hD h5 h7
      refine ⟨c, r', s', d', dw', ?_, q2, q3⟩
      rw [q1, bs]
      rcases q3.c with hc | hc
      · rw [hc, okZ0, bs]
      · rw [hc, okZ1, bs]
    · have hl : ¬ gS d 7 ≤ 0 := by
        rcases hD.2.1 with h | ⟨_, l, st, bg, ⟨b1, b2, b3, b4⟩, _⟩
        · exact absurd h.2 h7
        · rw [b1]; exact nI_nle (by omega) (by omega)
      rw [if_neg (by rw [h5]; decide), if_neg hl]
      obtain ⟨r', d', w1, w2, w3, w4, w5⟩ := both_fail hK h31 (c := 3) (by decide) (by decide)
      refine ⟨0, r', sc, d', dw, ?_, ?_, bad_l w4 (hsm.of w5) w3⟩
      · rw [show f_X4_fail r 3 = _ from w1, bs, okZ0, bs]
      · rw [show f_X9_flaw d 3 = _ from w2, bs, fl_sw w3.1]
/-- what a text's reading comes to -/
def RSO (f : Nat) (r s d0 d : Pic) : Prop := FDR d0 d ∧ gS d 31 = nI f ∧ SMC d ∧ ((f = 0 ∧ ∃ nd no, RDR r s d nd no 0 ∧ BGN r s d) ∨ (0 < f ∧ f < 7 ∧ gS r 7 = gS d 29))
theorem both_ls {x2 : Int32} {d0 : Pic} : ∀ (m p v f1 f2 : Nat) (c : Int32) (r sc d : Pic) (dw : Int64), p + m = 901 → v ≤ p → m < f1 → m < f2 → p ≤ 901 → LNO N T p c r sc d0 d dw → TPE b d T → N ≤ 900 → ∃ f r' s' d' dw', L_X4_readScript_49 b x2 f1 r sc c (nI v) = some (nI f, r', s') ∧ L_X9_readAll_23 f2 d dw = some (d', dw') ∧ RSO f r' s' d0 d' := by
  intro m
  induction m using Nat.strongRecOn with
  | ind m ih =>
    intro p v f1 f2 c r sc d dw h1 h2 h3 h4 h5 hL hT hN
    obtain ⟨f1, rfl⟩ : ∃ f, f1 = f + 1 := ⟨f1 - 1, by omega⟩
    obtain ⟨f2, rfl⟩ : ∃ f, f2 = f + 1 := ⟨f2 - 1, by omega⟩
    have em : L_X9_readAll_23 (f2 + 1) d dw = (f_X9_isSign d 59).bind fun u6 => if u6 = 0 then if (gS d 28) = 1 then b_X9_readAll_56 d dw else (f_X9_flaw d 1).bind fun u8 => b_X9_readAll_56 u8 dw else (f_X9_goOn d dw).bind fun u9 => (f_X9_readLine u9.1 u9.2).bind fun u10 => L_X9_readAll_23 f2 u10.1 u10.2 := rfl
    have ex : L_X4_readScript_49 b x2 (f1 + 1) r sc c (nI v) = if c = 0 then some ((gS r 6), r, sc) else if (gS r 4) = 3 then if 900 < nI v then some ((gS r 6), r, sc) else (f_X4_advance r b).bind fun u10 => (f_X4_readLine u10 b sc).bind fun u11 => L_X4_readScript_49 b x2 f1 u11.2.1 u11.2.2 u11.1 (nI v + 1) else some ((gS r 6), r, sc) := rfl
    obtain ⟨hF, hL⟩ := hL
    rcases hL with ⟨hc, q, a, k, nd, no, hK, hq, hk, hD, hB⟩ | ⟨hc, hs, hf⟩
    · subst hc
      have sg := m_sg hK (c := 59) (Or.inl rfl)
      rw [if_neg (by decide), hK.2.2.1] at ex
      rcases hk with hk | hk
      · refine ⟨0, r, sc, d, dw, ?_, ?_, hF, hD.1.1, hD.2.2.2.2.2.1, Or.inl ⟨rfl, nd, no, hD, hB⟩⟩
        · rw [ex, if_neg (by rw [hk]; decide), hD.1.2]; rfl
        · rw [em, show f_X9_isSign d 59 = _ from sg, bs, if_pos (by rw [if_neg (by omega)]), if_pos ((m_en hK).mpr hk)]
          unfold b_X9_readAll_56
          obtain ⟨_, l, st, bg, ⟨b1, b2, b3, b4⟩, _⟩ := hB
          rw [if_pos hD.1.1, if_neg (by rw [b1]; exact nI_ne0 (by omega) (by omega))]
      · have hPS := hK.ps1 (Or.inr (Or.inl hk))
        have haN : a ≤ N := hPS.1.2.2.2.2.2
        obtain ⟨r1, d1, dw1, s1, a1, k1, j1, j2, j3, j4, j5, j6⟩ := both_adv (dw := dw) hPS.1 hT hD.1.1
        have hs1 : s1 ≤ N := j3.2.1.2.2
        have t1 : TPE b d1 T := hT.of (by rw [j6.2])
        obtain ⟨c', r2, s2, d2, dw2, y1, y2, y3⟩ := both_li j3 t1 (hD.fr j5 j6)
        have t2 : TPE b d2 T := t1.of (y3.1.2 24 (by decide))
        obtain ⟨f, r', s', d', dw', z1, z2, z3⟩ := ih (901 - (s1 + 1)) (by omega) (s1 + 1) (v + 1) f1 f2 c' r2 s2 d2 dw2 (by omega) (by omega) (by omega) (by omega) (by omega) (y3.tr (hF.tr j6.fr)) t2 hN
        refine ⟨f, r', s', d', dw', ?_, ?_, z3⟩
        · rw [ex, if_pos (by rw [hk]; rfl), if_neg (show ¬ (900 : Int32) < nI v from nI_nlt (a := 900) (by omega) (by decide)), j1, bs, y1, bs, nI_1]
          exact z1
        · rw [em, show f_X9_isSign d 59 = _ from sg, bs, if_neg (by rw [if_pos (Or.inl ⟨hk, rfl⟩)]; decide), j2, bs, y2, bs]
          exact z2
    · subst hc
      rw [if_pos rfl] at ex
      rcases hf with hf | hf
      · obtain ⟨f, g1, g2, g3⟩ := hf.1.2
        refine ⟨f, r, sc, d, dw, by rw [ex, hf.2.1, g1], ?_, hF, g1, hs, Or.inr ⟨g2, g3, hf.2.2⟩⟩
        rw [em, fl_sign hf.1, bs, if_pos rfl, if_neg (by rw [hf.1.1]; decide), fl_flaw hf.1, bs]
        unfold b_X9_readAll_56
        rw [if_neg hf.1.n.1]
      · obtain ⟨g1, g2, g3, g4, g5⟩ := hf
        obtain ⟨d1, v1, x1, y1, z1⟩ := pS_e d 31 1
        obtain ⟨d2, v2, x2', y2, z2⟩ := pS_e d1 28 0
        have e31 : gS d2 31 = 1 := by rw [y2 31 (by decide)]; exact x1
        refine ⟨1, r, sc, d2, dw, by rw [ex, g2]; rfl, ?_, hF.tr ⟨fun k hk => by rw [y2 k (by omega), y1 k (by omega)], fun k _ => by rw [z2, z1]⟩, e31, hs.of (by rw [z2, z1]), Or.inr ⟨by decide, by decide, by rw [y2 29 (by decide), y1 29 (by decide)]; exact g3⟩⟩
        have es : f_X9_isSign d 59 = some 0 := by
          unfold f_X9_isSign
          by_cases g : gS d 28 = 4
          · rw [if_pos g, if_neg (fun w => g5 ⟨g, w⟩)]
          · rw [if_neg g]
        rw [em, es, bs, if_pos rfl, if_neg g4]
        unfold f_X9_flaw b_X9_flaw_12
        rw [if_pos g1, bs, v1, bs, v2, bs]
        unfold b_X9_readAll_56
        rw [e31, if_neg (by decide)]
/-- the whole text -/
theorem both_rs (hn : n ≤ 900) (hT : TPE b d T) (h26 : gS d 26 = nI n) (h27 : gS d 27 = 0) (h31 : gS d 31 = 0) (hsm : SMC d) : ∃ f r' s' d' dw', f_X4_readScript r b sc (nI n) = some (nI f, r', s') ∧ f_X9_readAll d dw = some (d', dw') ∧ RSO f r' s' d d' := by
  obtain ⟨d1, u1, x1, y1, z1⟩ := pS_e d 7 0
  obtain ⟨d2, u2, x2, y2, z2⟩ := pS_e d1 10 0
  obtain ⟨d3, u3, x3, y3, z3⟩ := pS_e d2 11 0
  obtain ⟨r1, v1, a1, b1, c1⟩ := pS_e r 1 (nI n)
  obtain ⟨r2, v2, a2, b2, c2⟩ := pS_e r1 2 0
  obtain ⟨r3, v3, a3, b3, c3⟩ := pS_e r2 5 0
  obtain ⟨r4, v4, a4, b4, c4⟩ := pS_e r3 6 0
  obtain ⟨s1, w1, e1, f1, g1⟩ := pS_e sc 3 0
  obtain ⟨s2, w2, e2, f2, g2⟩ := pS_e s1 4 0
  have gd : ∀ k, k ≠ 7 → k ≠ 10 → k ≠ 11 → gS d3 k = gS d k := fun k h7 h0 h1 => by rw [y3 k h1, y2 k h0, y1 k h7]
  have ad : d3.2 = d.2 := by rw [z3, z2, z1]
  have hP : PSR n r4 d3 0 := ⟨by rw [b4 1 (by decide), b3 1 (by decide), b2 1 (by decide)]; exact a1, by rw [gd 26 (by decide) (by decide) (by decide)]; exact h26, hn, by rw [b4 2 (by decide), b3 2 (by decide)]; exact a2, by rw [gd 27 (by decide) (by decide) (by decide)]; exact h27, Nat.zero_le _⟩
  have h31' : gS d3 31 = 0 := by rw [gd 31 (by decide) (by decide) (by decide)]; exact h31
  have t3 : TPE b d3 T := hT.of (by rw [ad])
  have hD : RDR r4 s2 d3 0 0 0 := ⟨⟨h31', a4⟩, Or.inl ⟨by rw [b4 5 (by decide)]; exact a3, by rw [y3 7 (by decide), y2 7 (by decide)]; exact x1⟩, ⟨by rw [f2 3 (by decide)]; exact e1, by rw [y3 10 (by decide)]; exact x2, by decide⟩, ⟨e2, x3, by decide⟩, fun j hj => by omega, hsm.of ad, fun i hi => by omega⟩
  obtain ⟨r5, d5, dw5, q, a, k, j1, j2, j3, j4, j5, j6⟩ := both_adv (dw := dw) hP t3 h31'
  have t5 : TPE b d5 T := t3.of (by rw [j6.2])
  obtain ⟨c, r6, s6, d6, dw6, l1, l2, l3⟩ := both_li j3 t5 (hD.fr j5 j6)
  have hq : q ≤ n := j3.2.1.2.2
  have hF : FDR d d5 := FDR.tr ⟨fun k hk => gd k (by omega) (by omega) (by omega), fun k _ => by rw [ad]⟩ j6.fr
  obtain ⟨f, r', s', d', dw', m1, m2, m3⟩ := both_ls (x2 := nI n) (901 - (q + 1)) (q + 1) 1 FU FU c r6 s6 d6 dw6 (by omega) (by omega) (FU_ge (by omega)) (FU_ge (by omega)) (by omega) (l3.tr hF) (t5.of (l3.1.2 24 (by decide))) hn
  refine ⟨f, r', s', d', dw', ?_, ?_, m3⟩
  · unfold f_X4_readScript f_X5_clear
    rw [if_neg (show ¬ (900 : Int32) < nI n from nI_nlt (a := 900) hn (by decide)), bs, v1, bs, w1, bs, w2, bs, bs, v2, bs, v3, bs, v4, j1, bs, l1, bs]
    exact m1
  · unfold f_X9_readAll
    rw [bs, u1, bs, u2, bs, u3, j2, bs, l2, bs]
    exact m2
end LD
