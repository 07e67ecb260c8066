/-! (B) reading: lines -/
def LATE (r d : Pic) : Prop := gS d 31 = 0 ∧ gS r 6 = 1 ∧ gS r 7 = gS d 29 ∧ ¬ gS d 28 = 1 ∧ ¬ (gS d 28 = 4 ∧ gS d 30 = 59)
def LNO (N : Nat) (T : Nat → Nat) (p : Nat) (c : Int32) (r s d0 d : Pic) (dw : Int64) : Prop := FDR d0 d ∧ ((c = 1 ∧ ∃ q a k nd no, TKR N T r d dw q a k ∧ p ≤ q ∧ (k = 0 ∨ k = 3) ∧ RDR r s d nd no 0 ∧ BGN r s d) ∨ (c = 0 ∧ SMC d ∧ (FLT r d ∨ LATE r d)))
section LN
variable {r b d sc r' d' s' : Pic} {T : Nat → Nat} {N i s q κ a k w nd no n m v p : Nat} {dw : Int64}
theorem TKR.k7 (h : TKR N T r d dw s a k) : k < 7 := by
  rcases h.2.2.2 with h | h | h | h | h | h <;> omega
theorem le_ok (h : TKR N T r d dw s a k) : f_X4_isLineEnd r = some (if k = 0 ∨ k = 3 then 1 else 0) := by
  have h7 := h.k7
  unfold f_X4_isLineEnd
  rw [h.2.2.1]
  by_cases g3 : k = 3
  · rw [if_pos (by rw [g3]; rfl), if_pos (Or.inr g3)]
  · rw [if_neg (fun x => g3 ((nI_e3 (by omega)).mp x))]
    by_cases g0 : k = 0
    · rw [if_pos (by rw [g0]; rfl), if_pos (Or.inl g0)]
    · rw [if_neg (fun x => g0 ((nI_e0 (by omega)).mp x)), if_neg (by omega)]
theorem late (hK : TKR N T r d dw s a k) (h31 : gS d 31 = 0) (hk : ¬ (k = 0 ∨ k = 3)) : ∃ r', f_X4_fail r 1 = some (0, r') ∧ LATE r' d := by
  obtain ⟨r1, w1, a1, b1, c1⟩ := pS_e r 6 1
  obtain ⟨r2, w2, a2, b2, c2⟩ := pS_e r1 7 (gS r1 3)
  refine ⟨r2, ?_, h31, by rw [b2 6 (by decide)]; exact a1, by rw [a2, b1 3 (by decide), hK.2.1.1, hK.2.1.2.1], ?_, ?_⟩
  · unfold f_X4_fail
    rw [bs, w1, bs, w2]
  · rcases hK.2.2.2 with h | h | h | h | h | h
    · omega
    · rw [h.2.1]; decide
    · rw [h.2.1]; decide
    · rw [h.2.1]; decide
    · rw [h.2.1]; decide
    · rw [h.2]; decide
  · rcases hK.2.2.2 with h | h | h | h | h | h
    · omega
    · rw [h.2.1]; exact fun x => absurd x.1 (by decide)
    · rw [h.2.1]; exact fun x => absurd x.1 (by decide)
    · omega
    · rw [h.2.2.2.2]; exact fun x => absurd x.2 (by decide)
    · rw [h.2]; exact fun x => absurd x.1 (by decide)
theorem LATE.of (h : LATE r d) (e : ∀ k, 27 < k → gS d' k = gS d k) : LATE r d' := by
  unfold LATE
  rw [e 31 (by decide), e 29 (by decide), e 28 (by decide), e 30 (by decide)]
  exact h
theorem bad_l {d0 : Pic} {r' d' : Pic} {dw' : Int64} {p : Nat} {s' : Pic} (hf : FDR d0 d') (hs : SMC d') (h : FLT r' d') : LNO N T p 0 r' s' d0 d' dw' := ⟨hf, Or.inr ⟨rfl, hs, Or.inl h⟩⟩
theorem m_sg (h : TKR N T r d dw s a k) {c : Nat} (hc : c = 59 ∨ c = 44) : f_X9_isSign d (nI c) = some (if (k = 3 ∧ c = 59) ∨ (k = 4 ∧ c = 44) then 1 else 0) := by
  unfold f_X9_isSign
  rcases h.2.2.2 with h | h | h | h | h | h
  · rw [h.2.1, if_neg (by decide), if_neg (by omega)]
  · rw [h.2.1, if_neg (by decide), if_neg (by omega)]
  · rw [h.2.1, if_neg (by decide), if_neg (by omega)]
  · rw [h.2.1, if_pos (by decide), h.2.2.2.2]
    rcases hc with hc | hc
    · subst hc; rw [if_pos (by decide), if_pos (by omega)]
    · subst hc; rw [if_neg (by decide), if_neg (by omega)]
  · rw [h.2.1, if_pos (by decide), h.2.2.2.2]
    rcases hc with hc | hc
    · subst hc; rw [if_neg (by decide), if_neg (by omega)]
    · subst hc; rw [if_pos (by decide), if_pos (by omega)]
  · rw [h.2, if_neg (by decide), if_neg (by omega)]
theorem m_en (h : TKR N T r d dw s a k) : gS d 28 = 1 ↔ k = 0 := by
  rcases h.2.2.2 with h | h | h | h | h | h
  · rw [h.2.1]; exact ⟨fun _ => h.1, fun _ => rfl⟩
  · rw [h.2.1]; exact ⟨fun x => absurd x (by decide), fun x => by omega⟩
  · rw [h.2.1]; exact ⟨fun x => absurd x (by decide), fun x => by omega⟩
  · rw [h.2.1]; exact ⟨fun x => absurd x (by decide), fun x => by omega⟩
  · rw [h.2.1]; exact ⟨fun x => absurd x (by decide), fun x => by omega⟩
  · rw [h.2]; exact ⟨fun x => absurd x (by decide), fun x => by omega⟩
/-- the swap line -/
theorem both_sw (hK : TKR N T r d dw s a k) (k1 : k = 1) (hT : TPE b d T) (hD : RDR r sc d nd no 0) (h5 : gS r 5 = 0) (h7 : gS d 7 = 0) : ∃ c r' s' d' dw', f_X4_readSettings r b sc = some (c, r', s') ∧ b_X9_readSwap_12 d dw = some (d', dw') ∧ LNO N T (s + 1) c r' s' d d' dw' := by
  have h31 := hD.1.1
  have hsm : SMC d := hD.2.2.2.2.2.1
  have hPS : PSR N r d a ∧ s < a := by
    rcases hK.2.2.2 with h | h | h | h | h | h
    · omega
    · exact ⟨h.2.2.1, h.2.2.2.1⟩
    · omega
    · omega
    · omega
    · omega
  obtain ⟨r1, d1, dw1, s1, a1, k1', f1, f2, f3, f4, f5, f6⟩ := both_adv (dw := dw) hPS.1 hT h31
  have g1 : gS d1 31 = 0 := by rw [f6.1 31 (by decide) (by decide) (by decide) (by decide)]; exact h31
  have t1 : TPE b d1 T := hT.of (by rw [f6.2])
  have ex : f_X4_readSettings r b sc = (pt r1 b 1 1 24).bind fun q => b_X4_readSettings_24 b q.2 sc q.1 := by
    unfold f_X4_readSettings
    rw [f1, bs]
    exact pt_k (fun p v => b_X4_readSettings_24 b p sc v)
  have em : b_X9_readSwap_12 d dw = (f_X9_readPart d1 dw1 1 1 24).bind fun u2 => (f_X9_readPart u2.2.1 u2.2.2 2 1 4).bind fun u3 => (f_X9_readPart u3.2.1 u3.2.2 3 4 15).bind fun u4 => if (gS u4.2.1 31) ≤ 0 then (some (pS u4.2.1 7 u2.1)).bind fun d_ad5 => (some (pS d_ad5 8 u3.1)).bind fun d_ad6 => (some (pS d_ad6 9 u4.1)).bind fun d_ad7 => some (d_ad7, u4.2.2) else some (u4.2.1, u4.2.2) := by
    unfold b_X9_readSwap_12
    rw [f2, bs]
  rcases both_pt f3 t1 g1 (w := 1) (lo := 1) (H := 25) (hiI := 24) (by decide) (by decide) (hh_c 24 (by decide)) with ⟨v, r2, d2, dw2, s2, a2, k2, v1, v2, v3, e1, e2, e3, e4, e5, e6⟩ | ⟨r', d', dw', e1, e2, e3, e4, e5⟩
  · have g2 : gS d2 31 = 0 := by rw [e6.1 31 (by decide) (by decide) (by decide) (by decide)]; exact g1
    have t2 : TPE b d2 T := t1.of (by rw [e6.2])
    rw [show pt r1 b 1 1 24 = _ from e1, bs] at ex
    rw [show f_X9_readPart d1 dw1 1 1 24 = _ from e2, bs] at em
    have ex2 : f_X4_readSettings r b sc = (pt r2 b 2 1 4).bind fun q => b_X4_readSettings_50 b q.2 sc (nI v) q.1 := by
      rw [ex]
      unfold b_X4_readSettings_24
      rw [if_pos (nI_pos' (by omega))]
      exact pt_k (fun p x => b_X4_readSettings_50 b p sc (nI v) x)
    rcases both_pt e3 t2 g2 (w := 2) (lo := 1) (H := 5) (hiI := 4) (by decide) (by decide) (hh_c 4 (by decide)) with ⟨v', r3, d3, dw3, s3, a3, k3, v1', v2', v3', e1', e2', e3', e4', e5', e6'⟩ | ⟨r', d', dw', e1', e2', e3', e4', e5'⟩
    · have g3 : gS d3 31 = 0 := by rw [e6'.1 31 (by decide) (by decide) (by decide) (by decide)]; exact g2
      have t3 : TPE b d3 T := t2.of (by rw [e6'.2])
      rw [show pt r2 b 2 1 4 = _ from e1', bs] at ex2
      rw [show f_X9_readPart d2 dw2 2 1 4 = _ from e2', bs] at em
      have ex3 : f_X4_readSettings r b sc = (pt r3 b 3 4 15).bind fun q => b_X4_readSettings_77 b q.2 sc (nI v) (nI v') q.1 := by
        rw [ex2]
        unfold b_X4_readSettings_50
        rw [if_pos (nI_pos' (by omega))]
        exact pt_k (fun p x => b_X4_readSettings_77 b p sc (nI v) (nI v') x)
      rcases both_pt e3' t3 g3 (w := 3) (lo := 4) (H := 16) (hiI := 15) (by decide) (by decide) (hh_c 15 (by decide)) with ⟨v'', r4, d4, dw4, s4, a4, k4, v1'', v2'', v3'', e1'', e2'', e3'', e4'', e5'', e6''⟩ | ⟨r', d', dw', e1'', e2'', e3'', e4'', e5''⟩
      · have g4 : gS d4 31 = 0 := by rw [e6''.1 31 (by decide) (by decide) (by decide) (by decide)]; exact g3
        have hD4 := (((hD.fr f5 f6).fr e5 e6).fr e5' e6').fr e5'' e6''
        have fr4 : FRr r r4 := ((f5.tr e5).tr e5').tr e5''
        have fd4 : FRd d d4 := ((f6.tr e6).tr e6').tr e6''
        rw [show pt r3 b 3 4 15 = _ from e1'', bs] at ex3
        rw [show f_X9_readPart d3 dw3 3 4 15 = _ from e2'', bs] at em
        obtain ⟨d5, x5, y5, z5, u5⟩ := pS_e d4 7 (nI v)
        obtain ⟨d6, x6, y6, z6, u6⟩ := pS_e d5 8 (nI v')
        obtain ⟨d7, x7, y7, z7, u7⟩ := pS_e d6 9 (nI v'')
        obtain ⟨sa, xa, ya, za, ua⟩ := pS_e sc 0 (nI v)
        obtain ⟨sb, xb, yb, zb, ub⟩ := pS_e sa 1 (nI v')
        obtain ⟨s7, xc, yc, zc, uc⟩ := pS_e sb 2 (nI v'')
        obtain ⟨r7, xr, yr, zr, ur⟩ := pS_e r4 5 1
        have em7 : b_X9_readSwap_12 d dw = some (d7, dw4) := by
          rw [em, if_pos (by show gS d4 31 ≤ 0; rw [g4]; decide), bs, x5, bs, x6, bs, x7]
        have gd7 : ∀ k, k ≠ 7 → k ≠ 8 → k ≠ 9 → gS d7 k = gS d4 k := fun k h7 h8 h9 => by rw [z7 k h9, z6 k h8, z5 k h7]
        have gs7 : ∀ k, 2 < k → gS s7 k = gS sc k := fun k hk => by rw [zc k (by omega), zb k (by omega), za k (by omega)]
        have hB : BGN r7 s7 d7 := ⟨yr, v, v', v'', ⟨by rw [z7 7 (by decide), z6 7 (by decide)]; exact y5, by rw [zc 0 (by decide), zb 0 (by decide)]; exact ya, v1, by omega⟩, ⟨by rw [z7 8 (by decide)]; exact y6, by rw [zc 1 (by decide)]; exact yb, v1', by omega⟩, y7, yc, by omega⟩
        obtain ⟨⟨m1, m2⟩, m3, ⟨m4, m5, m6⟩, ⟨m7, m8, m9⟩, n1, n2, n3⟩ := hD4
        have hd7 : d7.2 = d4.2 := by rw [u7, u6, u5]
        have hs7 : s7.2 = sc.2 := by rw [uc, ub, ua]
        have hR7 : RDR r7 s7 d7 nd no 0 := ⟨⟨by rw [gd7 31 (by decide) (by decide) (by decide)]; exact m1, by rw [zr 6 (by decide)]; exact m2⟩, Or.inr hB, ⟨by rw [gs7 3 (by decide)]; exact m4, by rw [gd7 10 (by decide) (by decide) (by decide)]; exact m5, m6⟩, ⟨by rw [gs7 4 (by decide)]; exact m7, by rw [gd7 11 (by decide) (by decide) (by decide)]; exact m8, m9⟩, fun j hj => by rw [hs7, hd7]; exact n1 j hj, n2.of hd7, fun i hi => by rw [hs7, hd7]; exact n3 i hi⟩
        have hK7 : TKR N T r7 d7 dw4 s4 a4 k4 := by
          have q1 : ∀ k, k < 5 → gS r7 k = gS r4 k := fun k hk => zr k (by omega)
          have q2 : ∀ k, 25 < k → gS d7 k = gS d4 k := fun k hk => gd7 k (by omega) (by omega) (by omega)
          have := e3''
          unfold TKR PSR at this ⊢
          rw [q1 1 (by decide), q1 2 (by decide), q1 3 (by decide), q1 4 (by decide), q2 26 (by decide), q2 27 (by decide), q2 28 (by decide), q2 29 (by decide), q2 30 (by decide)]
          exact this
        have hF7 : FDR d d7 := fd4.fr.tr ⟨fun k hk => gd7 k (by omega) (by omega) (by omega), fun k _ => by rw [hd7]⟩
        have exl : f_X4_readSettings r b sc = (f_X4_isLineEnd r7).bind fun u9 => if u9 = 0 then (f_X4_fail r7 1).bind fun u10 => if u10.1 = 0 then some (0, u10.2, s7) else some (1, u10.2, s7) else some (1, r7, s7) := by
          rw [ex3]
          unfold b_X4_readSettings_77
          rw [if_pos (nI_pos' (by omega)), bs, xa, bs, xb, bs, xc, bs, xr]
        by_cases gk : k4 = 0 ∨ k4 = 3
        · refine ⟨1, r7, s7, d7, dw4, ?_, em7, hF7, Or.inl ⟨rfl, s4, a4, k4, nd, no, hK7, by omega, gk, hR7, hB⟩⟩
          rw [exl, le_ok hK7, if_pos gk, bs, if_neg (by decide)]
        · obtain ⟨r8, l1, l2⟩ := late hK7 hR7.1.1 gk
          refine ⟨0, r8, s7, d7, dw4, ?_, em7, hF7, Or.inr ⟨rfl, n2.of hd7, Or.inr l2⟩⟩
          rw [exl, le_ok hK7, if_neg gk, bs, if_pos rfl, l1, bs, if_pos rfl]
      · refine ⟨0, r', sc, d', dw', ?_, ?_, bad_l ((((f6.tr e6).tr e6').fr).tr e4'') (((hsm.of f6.2).of e6.2).of e6'.2 |>.of e5'') e3''⟩
        · rw [ex3, show pt r3 b 3 4 15 = _ from e1'', bs]
          unfold b_X4_readSettings_77
          rw [if_neg (show ¬ (0 : Int32) ≤ -1 by decide)]
        · rw [em, show f_X9_readPart d3 dw3 3 4 15 = _ from e2'', bs, if_neg e3''.1.n.2]
    · refine ⟨0, r', sc, d', dw', ?_, ?_, bad_l ((f6.tr e6).fr.tr e4') (((hsm.of f6.2).of e6.2).of e5') e3'⟩
      · rw [ex2, show pt r2 b 2 1 4 = _ from e1', bs]
        unfold b_X4_readSettings_50
        rw [if_neg (show ¬ (0 : Int32) ≤ -1 by decide)]
      · rw [em, show f_X9_readPart d2 dw2 2 1 4 = _ from e2', bs, fl_rp e3'.1 (by decide), bs, if_neg e3'.1.n.2]
  · refine ⟨0, r', sc, d', dw', ?_, ?_, bad_l (f6.fr.tr e4) ((hsm.of f6.2).of e5) e3⟩
    · rw [ex, show pt r1 b 1 1 24 = _ from e1, bs]
      unfold b_X4_readSettings_24
      rw [if_neg (show ¬ (0 : Int32) ≤ -1 by decide)]
    · rw [em, show f_X9_readPart d1 dw1 1 1 24 = _ from e2, bs, fl_rp e3.1 (by decide), bs, fl_rp e3.1 (by decide), bs, if_neg e3.1.n.2]
end LN
