/-! (B) reading: ops, data, all lines -/
section LO
variable {r b d sc r' d' s' : Pic} {T : Nat → Nat} {N i s q κ a k w nd no n m v p x : Nat} {dw : Int64}
theorem TKR.ps1 (hK : TKR N T r d dw s a k) (k1 : k = 1 ∨ k = 3 ∨ k = 4) : PSR N r d a ∧ s < a := by
  rcases hK.2.2.2 with h | h | h | h | h | h
  · omega
  · exact ⟨h.2.2.1, h.2.2.2.1⟩
  · omega
  · exact ⟨h.2.2.1, h.2.2.2.1⟩
  · exact ⟨h.2.2.1, h.2.2.2.1⟩
  · omega
theorem fin_op {t0 : Int32} {kk : Nat} (hK : TKR N T r d dw s a k) (hD : RDR r sc d nd no 0) (hB : BGN r sc d) (hno : no < 24) (hx : x < 3) (hq : q < 30) (ht : x = 0 → t0 = nI kk ∧ kk < nd) (hp : p ≤ s) : ∃ c r' s' d', b_X4_readOp_46 b (nI x) r sc (nI q) t0 = some (c, r', s') ∧ b_X9_readOp_46 (nI x) d dw (nI q) t0 = some (d', dw) ∧ LNO N T p c r' s' d d' dw := by
  obtain ⟨⟨m1, m2⟩, m3, ⟨m4, m5, m6⟩, ⟨m7, m8, m9⟩, n1, n2, n3⟩ := hD
  obtain ⟨d1, u1, a1, b1, c1⟩ := wA_e (p := d) 15 (n := 24) (j := no) (nI x) hno (by decide)
  obtain ⟨d2, u2, a2, b2, c2⟩ := wA_e (p := d1) 16 (n := 24) (j := no) (nI q) hno (by decide)
  obtain ⟨d3, u3, a3, b3, c3⟩ := wA_e (p := d2) 17 (n := 24) (j := no) t0 hno (by decide)
  obtain ⟨d4, u4, a4, b4, c4⟩ := pS_e d3 11 (nI no + 1)
  have gd3 : ∀ k, gS d3 k = gS d k := fun k => by unfold gS; rw [a3, a2, a1]
  have gd1 : gS d1 11 = nI no := by unfold gS; rw [a1]; exact m8
  have gd2 : gS d2 11 = nI no := by unfold gS; rw [a2, a1]; exact m8
  have em : b_X9_readOp_46 (nI x) d dw (nI q) t0 = some (d4, dw) := by
    unfold b_X9_readOp_46
    rw [m1, if_pos (by decide), m8, u1, bs, gd1, u2, bs, gd2, u3, bs, gd3 11, m8, bs, u4]
  have gd4 : ∀ k, k ≠ 11 → gS d4 k = gS d k := fun k hk => by rw [b4 k hk, gd3]
  have ad4 : ∀ k, k ≠ 15 → k ≠ 16 → k ≠ 17 → d4.2 k = d.2 k := fun k h5 h6 h7 => by rw [c4, c3 k h7, c2 k h6, c1 k h5]
  have hF : FDR d d4 := ⟨fun k hk => gd4 k (by omega), fun k hk => ad4 k (by omega) (by omega) (by omega)⟩
  have hsm : SMC d4 := fun j hj => by rw [ad4 18 (by decide) (by decide) (by decide)]; exact n2 j hj
  by_cases gk : k = 0 ∨ k = 3
  · obtain ⟨s1, x1, e1, f1, g1⟩ := wA_e (p := sc) 6 (n := 24) (j := no) (nI x) hno (by decide)
    obtain ⟨s2, x2, e2, f2, g2⟩ := wA_e (p := s1) 7 (n := 24) (j := no) (nI q) hno (by decide)
    obtain ⟨s3, x3, e3, f3, g3⟩ := wA_e (p := s2) 8 (n := 24) (j := no) t0 hno (by decide)
    obtain ⟨s4, x4, e4, f4, g4⟩ := pS_e s3 4 (nI no + 1)
    have gs3 : ∀ k, gS s3 k = gS sc k := fun k => by unfold gS; rw [e3, e2, e1]
    have gs1 : gS s1 4 = nI no := by unfold gS; rw [e1]; exact m7
    have gs2 : gS s2 4 = nI no := by unfold gS; rw [e2, e1]; exact m7
    have gs4 : ∀ k, k ≠ 4 → gS s4 k = gS sc k := fun k hk => by rw [f4 k hk, gs3]
    have ea : f_X5_addOp sc (nI x) (nI q) t0 = some s4 := by
      unfold f_X5_addOp
      rw [m7, if_neg (show ¬ (24 : Int32) ≤ nI no from nI_ge (b := 24) hno (by decide)), x1, bs, gs1, x2, bs, gs2, x3, bs, gs3 4, m7, bs, x4]
    have hB4 : BGN r s4 d4 := hB.fr rfl (gd4 7 (by decide)) (gd4 8 (by decide)) (gd4 9 (by decide)) (gs4 0 (by decide)) (gs4 1 (by decide)) (gs4 2 (by decide))
    refine ⟨1, r, s4, d4, ?_, em, hF, Or.inl ⟨rfl, s, a, k, nd, no + 1, ?_, hp, gk, ⟨⟨by rw [gd4 31 (by decide)]; exact m1, m2⟩, Or.inr hB4, ⟨by rw [gs4 3 (by decide)]; exact m4, by rw [gd4 10 (by decide)]; exact m5, m6⟩, ⟨by rw [e4, nI_1], by rw [a4, nI_1], by omega⟩, fun j hj => ?_, hsm, fun i hi => ?_⟩, hB4⟩⟩
    · unfold b_X4_readOp_46
      rw [le_ok hK, if_pos gk, bs, if_neg (by decide), ea, bs]
    · have q2 : ∀ k, 25 < k → gS d4 k = gS d k := fun k hk => gd4 k (by omega)
      unfold TKR PSR at hK ⊢
      rw [q2 26 (by decide), q2 27 (by decide), q2 28 (by decide), q2 29 (by decide), q2 30 (by decide)]
      exact hK
    · rw [g4, g3 5 (by decide), g2 5 (by decide), g1 5 (by decide), ad4 18 (by decide) (by decide) (by decide)]
      exact n1 j hj
    · have s6 : s4.2 6 = upd (sc.2 6) no (nI x) := by rw [g4, g3 6 (by decide), g2 6 (by decide), f1]
      have s7 : s4.2 7 = upd (sc.2 7) no (nI q) := by rw [g4, g3 7 (by decide), f2, g1 7 (by decide)]
      have s8 : s4.2 8 = upd (sc.2 8) no t0 := by rw [g4, f3, g2 8 (by decide), g1 8 (by decide)]
      have d15 : d4.2 15 = upd (d.2 15) no (nI x) := by rw [c4, c3 15 (by decide), c2 15 (by decide), b1]
      have d16 : d4.2 16 = upd (d.2 16) no (nI q) := by rw [c4, c3 16 (by decide), b2, c1 16 (by decide)]
      have d17 : d4.2 17 = upd (d.2 17) no t0 := by rw [c4, b3, c2 17 (by decide), c1 17 (by decide)]
      rw [s6, s7, s8, d15, d16, d17]
      by_cases gi : i = no
      · subst gi
        rw [up_s, up_s, up_s, up_s, up_s, up_s]
        exact ⟨x, q, kk, ⟨rfl, rfl, hx⟩, ⟨rfl, rfl, hq⟩, rfl, ht⟩
      · rw [up_n gi, up_n gi, up_n gi, up_n gi, up_n gi, up_n gi]
        exact n3 i (by omega)
  · obtain ⟨r8, l1, l2⟩ := late hK m1 gk
    refine ⟨0, r8, sc, d4, ?_, em, hF, Or.inr ⟨rfl, hsm, Or.inr (l2.of (fun k hk => gd4 k (by omega)))⟩⟩
    unfold b_X4_readOp_46
    rw [le_ok hK, if_neg gk, bs, if_pos rfl, l1, bs, okZ0, bs]
theorem LNO.c {x' : Int32} (h : LNO N T p x' r sc d d' dw) : x' = 0 ∨ x' = 1 := by
  rcases h.2 with h | h
  · exact Or.inr h.1
  · exact Or.inl h.1
theorem LNO.tr {c : Int32} {d0 : Pic} (h : LNO N T p c r sc d d' dw) (h0 : FDR d0 d) : LNO N T p c r sc d0 d' dw := ⟨h0.tr h.1, h.2⟩
theorem both_op (hK : TKR N T r d dw s a k) (k1 : k = 1) (hT : TPE b d T) (hD : RDR r sc d nd no 0) (hx : x < 3) : ∃ c r' s' d' dw', ((f_X4_mayCome r (gS sc 4) 24).bind fun u4 => if u4.1 = 0 then some (0, u4.2, sc) else (f_X4_readOp u4.2 b sc (nI x)).bind fun u5 => if u5.1 = 0 then some (0, u5.2.1, u5.2.2) else some (1, u5.2.1, u5.2.2)) = some (c, r', s') ∧ f_X9_readOp d dw (nI x) = some (d', dw') ∧ LNO N T (s + 1) c r' s' d d' dw' := by
  have h31 := hD.1.1
  have hsm : SMC d := hD.2.2.2.2.2.1
  have m7 := hD.2.2.2.1
  have hPS := hK.ps1 (Or.inl k1)
  have em : f_X9_readOp d dw (nI x) = b_X9_readOp_15 (nI x) d dw (if no = 24 then 1 else 0) := by
    unfold f_X9_readOp
    by_cases g : no = 24
    · rw [if_pos (by rw [m7.2.1, g]; rfl), if_pos g]
    · rw [if_neg (by rw [m7.2.1]; exact fun w => g ((nI_eq (b := 24) (by omega) (by decide)).mp w)), if_neg g]
  rcases both_may (h := no) (R := 24) (x := if no = 24 then 1 else 0) hK h31 hD.hr m7.2.2 (by decide) rfl with ⟨w1, w2, w3, w4⟩ | ⟨r', d', w1, w2, w3, w4, w5⟩
  · have hB : BGN r sc d := by
      rcases hD.2.1 with h | h
      · exact absurd (h.1.symm.trans w2) (by decide)
      · exact h
    obtain ⟨r1, d1, dw1, s1, a1, k1', f1, f2, f3, f4, f5, f6⟩ := both_adv (dw := dw) hPS.1 hT h31
    have g1 : gS d1 31 = 0 := by rw [f6.1 31 (by decide) (by decide) (by decide) (by decide)]; exact h31
    have t1 : TPE b d1 T := hT.of (by rw [f6.2])
    have em1 : f_X9_readOp d dw (nI x) = (f_X9_readWhole d1 dw1 0 29).bind fun u2 => if nI x = 0 then (f_X9_readWhole u2.2.1 u2.2.2 0 ((gS u2.2.1 10) - 1)).bind fun u7 => b_X9_readOp_46 (nI x) u7.2.1 u7.2.2 u2.1 u7.1 else b_X9_readOp_46 (nI x) u2.2.1 u2.2.2 u2.1 (-2) := by
      rw [em]
      unfold b_X9_readOp_15
      rw [w4, f2, bs]
    have ex : f_X4_readOp r b sc (nI x) = (f_X4_takeWhole r1 b 0 29).bind fun u2 => if 0 ≤ u2.1 then if nI x = 0 then (f_X4_takeWhole u2.2 b 0 ((gS sc 3) - 1)).bind fun u7 => if 0 ≤ u7.1 then b_X4_readOp_46 b (nI x) u7.2 sc u2.1 u7.1 else some (0, u7.2, sc) else b_X4_readOp_46 b (nI x) u2.2 sc u2.1 (-2) else some (0, u2.2, sc) := by
      unfold f_X4_readOp
      rw [f1, bs]
    suffices h : ∃ c r' s' d' dw', f_X4_readOp r b sc (nI x) = some (c, r', s') ∧ f_X9_readOp d dw (nI x) = some (d', dw') ∧ LNO N T (s + 1) c r' s' d d' dw' by
      obtain ⟨c, r', s', d', dw', h1, h2, h3⟩ := h
      refine ⟨c, r', s', d', dw', ?_, h2, h3⟩
      rw [m7.1, show f_X4_mayCome r (nI no) 24 = _ from w3, bs, if_neg (show ¬ (1 : Int32) = 0 by decide), h1, bs]
      rcases h3.c with hc | hc
      · rw [hc, if_pos rfl]
      · rw [hc, if_neg (show ¬ (1 : Int32) = 0 by decide)]
    rcases both_tw f3 t1 g1 (lo := 0) (H := 30) (hiI := 29) (by decide) (hh_c 29 (by decide)) with ⟨q, r2, d2, dw2, s2, a2, k2, v1, v2, v3, e1, e2, e3, e4, e5, e6⟩ | ⟨r', d', e1, e2, e3, e4, e5⟩
    · have g2 : gS d2 31 = 0 := by rw [e6.1 31 (by decide) (by decide) (by decide) (by decide)]; exact g1
      have t2 : TPE b d2 T := t1.of (by rw [e6.2])
      have hD2 := (hD.fr f5 f6).fr e5 e6
      have hB2 : BGN r2 sc d2 := by
        have hh : ∀ k, k < 27 → gS d2 k = gS d k := fun k hk => (f6.tr e6).1 k (by omega) (by omega) (by omega) (by omega)
        exact hB.fr ((f5.tr e5).1 5 (by decide) (by decide) (by decide)) (hh 7 (by decide)) (hh 8 (by decide)) (hh 9 (by decide)) rfl rfl rfl
      rw [show f_X4_takeWhole r1 b 0 29 = _ from e1, bs, if_pos (nI_pos' (by omega))] at ex
      rw [show f_X9_readWhole d1 dw1 0 29 = _ from e2, bs] at em1
      by_cases x0 : x = 0
      · rw [if_pos (by rw [x0]; rfl), hD.2.2.1.1] at ex
        rw [if_pos (by rw [x0]; rfl), show gS d2 10 = nI nd from hD2.2.2.1.2.1] at em1
        rcases both_tw e3 t2 g2 (lo := 0) (H := nd) (hiI := nI nd - 1) (by decide) (hh_d nd (by have := hD.2.2.1.2.2; omega)) with ⟨kk, r3, d3, dw3, s3, a3, k3, v1', v2', v3', e1', e2', e3', e4', e5', e6'⟩ | ⟨r', d', e1', e2', e3', e4', e5'⟩
        · have hD3 := hD2.fr e5' e6'
          have hB3 : BGN r3 sc d3 := by
            have hh : ∀ k, k < 27 → gS d3 k = gS d2 k := fun k hk => e6'.1 k (by omega) (by omega) (by omega) (by omega)
            exact hB2.fr (e5'.1 5 (by decide) (by decide) (by decide)) (hh 7 (by decide)) (hh 8 (by decide)) (hh 9 (by decide)) rfl rfl rfl
          obtain ⟨c, r', s', d', q1, q2, q3⟩ := fin_op (b := b) (x := x) (q := q) (t0 := nI kk) (kk := kk) (p := s + 1) e3' hD3 hB3 w1 hx v2 (fun _ => ⟨rfl, v2'⟩) (by omega)
          refine ⟨c, r', s', d', dw3, ?_, ?_, q3.tr ((f6.tr e6).tr e6').fr⟩
          · rw [ex, show f_X4_takeWhole r2 b 0 (nI nd - 1) = _ from e1', bs, if_pos (nI_pos' (by omega)), q1]
          · rw [em1, show f_X9_readWhole d2 dw2 0 (nI nd - 1) = _ from e2', bs, q2]
        · refine ⟨0, r', sc, d', dw2, ?_, ?_, bad_l ((f6.tr e6).fr.tr e4') (((hsm.of f6.2).of e6.2).of e5') e3'⟩
          · rw [ex, show f_X4_takeWhole r2 b 0 (nI nd - 1) = _ from e1', bs, if_neg (show ¬ (0 : Int32) ≤ -1 by decide)]
          · rw [em1, show f_X9_readWhole d2 dw2 0 (nI nd - 1) = _ from e2', bs, fl_o46 e3'.1]
      · rw [if_neg (fun w => x0 ((nI_e0 (by omega)).mp w))] at ex em1
        obtain ⟨c, r', s', d', q1, q2, q3⟩ := fin_op (b := b) (x := x) (q := q) (t0 := -2) (kk := 0) (p := s + 1) e3 hD2 hB2 w1 hx v2 (fun w => absurd w x0) (by omega)
        exact ⟨c, r', s', d', dw2, by rw [ex, q1], by rw [em1, q2], q3.tr (f6.tr e6).fr⟩
    · refine ⟨0, r', sc, d', dw1, ?_, ?_, bad_l (f6.fr.tr e4) ((hsm.of f6.2).of e5) e3⟩
      · rw [ex, show f_X4_takeWhole r1 b 0 29 = _ from e1, bs, if_neg (show ¬ (0 : Int32) ≤ -1 by decide)]
      · rw [em1, show f_X9_readWhole d1 dw1 0 29 = _ from e2, bs, fl_rw e3.1, bs, fl_o46 e3.1, fl_o46 e3.1]
        split <;> rfl
  · refine ⟨0, r', sc, d', dw, ?_, ?_, bad_l w4 (hsm.of w5) w3⟩
    · rw [m7.1, show f_X4_mayCome r (nI no) 24 = _ from w1, bs, if_pos rfl]
    · rw [em]
      unfold b_X9_readOp_15
      rw [w2, bs, fl_rw w3.1, bs, fl_rw w3.1, bs, fl_o46 w3.1, fl_o46 w3.1]
      split <;> rfl
end LO
