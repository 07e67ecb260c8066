/-! (B) loading; writing back; another limit -/
section LD
variable {d p z : Pic} {X : Nat → Nat} {st q : Nat}
theorem nI_e2 {n : Nat} (h : n < 2 ^ 31) : nI n = 2 ↔ n = 2 := nI_eq (b := 2) h (by decide)
theorem nI_e3 {n : Nat} (h : n < 2 ^ 31) : nI n = 3 ↔ n = 3 := nI_eq (b := 3) h (by decide)
theorem nI_e0 {n : Nat} (h : n < 2 ^ 31) : nI n = 0 ↔ n = 0 := nI_eq (b := 0) h (by decide)
theorem nI_e1 {n : Nat} (h : n < 2 ^ 31) : nI n = 1 ↔ n = 1 := nI_eq (b := 1) h (by decide)
theorem both_ld (h : RR st d p z X) (hT : PT p X) (hq : q < 30) : ∃ d' p' X', f_X9_loads d (nI q) = some d' ∧ f_X3_loadPage p (nI q) = some p' ∧ SameX d d' ∧ RR st d' p' z X' ∧ PT p' X' ∧ X' (165 + q) = X (165 + q) ∧ (∀ j, j < 165 → j ≠ 3 → X' j = X j) ∧ (∀ k, k ≠ 11 → gS p' k = gS p k) ∧ (∀ k, 13 ≤ k → p'.2 k = p.2 k) := by
  have hR := h
  obtain ⟨hm, hp, hz, hI⟩ := h
  have hsm := hI.sml (165 + q) (by omega)
  unfold f_X9_loads f_X3_loadPage
  rw [m_pl hm hq, bs, p_pg hq, bs, if_neg (show ¬ (1 : Int32) = 0 by decide), rA_n hq (by decide), bs, bs, hp.1 q hq]
  by_cases e2 : X (165 + q) = 2
  · rw [if_neg (fun w => by have := (nI_e3 hsm).mp w; omega), if_pos ((nI_e2 hsm).mpr e2)]
    unfold b_X9_loads_19
    rw [m_pl hm hq, bs, if_pos ((nI_e2 hsm).mpr e2)]
    have h30 := hI.a30
    obtain ⟨k0, k1, k2⟩ := hI.age.2.2 q hq e2
    cases ef : agI X q with
    | none =>
      have := fnd_none ef k0 (by omega) (by omega)
      rw [k2] at this
      simp at this
    | some f =>
      obtain ⟨-, f1, f2⟩ := fnd_some ef
      have f2 : X (285 + f) = q := by simpa using f2
      have f1 : f < X 315 := by omega
      obtain ⟨d2, w2, s2, x2⟩ := m_fg hm hI.sml h30 (by omega) ef
      obtain ⟨p1, v1, b1, b2, b3, b4⟩ := p_age (a := fun k => X (285 + k)) hp.2.2.2.2.1 h30 hp.2.2.2.2.2 (fun k hk => (hI.age.1 k hk).1) f1 f2 (fun k hk e => hI.age.2.1 k f hk f1 (e.trans f2.symm))
      obtain ⟨d3, w3, s3, x3⟩ := m_gw (q := q) x2 (by rw [fg_n]; omega)
      obtain ⟨p2, v2, g1, g2, g3, g4⟩ := p_ay (q := q) b1 (by omega)
      rw [w2, bs, w3, bs, v1, bs, v2, bs]
      have lo := fun {j : Nat} => ld_o (X := X) (q := q) f1 h30 (j := j)
      have hn := ld_n (X := X) (q := q) f1
      refine ⟨d3, p2, gwX (fgX X f) q, rfl, rfl, s2.tr s3, ⟨x3, ⟨fun r hr => ?_, fun r hr w => ?_, fun r hr => ?_, fun r hr w i hi => ?_, ?_, fun j hj => ?_⟩, hz.eq (fun j a b => lo (by omega)), hI.ld hq e2 f1 f2⟩, fun r hr => ?_, lo (by omega), fun j hj _ => lo (by omega), fun r hr => ?_, fun r hr => ?_⟩
      · rw [g3 4 (by decide), b3 4 (by decide), lo (by omega)]; exact hp.1 r hr
      · rw [lo (by omega)] at w
        rw [g3 5 (by decide), b3 5 (by decide), g3 6 (by decide), b3 6 (by decide), g3 7 (by decide), b3 7 (by decide), lo (by omega), lo (by omega), lo (by omega)]
        exact hp.2.1 r hr w
      · rw [g3 8 (by decide), b3 8 (by decide), lo (by omega)]; exact hp.2.2.1 r hr
      · rw [lo (by omega)] at w
        rw [g3 9 (by decide), b3 9 (by decide), lo (by omega)]
        exact hp.2.2.2.1 r hr w i hi
      · rw [g1, hn]
        exact congrArg nI (by omega)
      · rw [hn] at hj
        rw [g4, ld_a f1 h30 hj]
        by_cases e : j = X 315 - 1
        · rw [if_pos e, e, up_s]
        · rw [if_neg e, up_n e]
          exact b4 j (by omega)
      · rw [g3 12 (by decide), b3 12 (by decide), lo (by omega)]; exact hT r hr
      · rw [g2 r hr, b2 r hr]
      · rw [g3 r (by omega), b3 r (by omega)]
  · rw [if_neg (fun w => e2 ((nI_e2 hsm).mp w))]
    by_cases e3 : X (165 + q) = 3
    · obtain ⟨d1, w1, s1, x1⟩ := m_w hm (j := 3) (X 3 + 1) (by omega)
      obtain ⟨p1, v1, a1, b1, c1⟩ := wA_e (p := p) 12 (n := 4) (j := 2) (nI (X 3 + 1)) (by omega) (by decide)
      have t2 := hT 2 (by omega)
      rw [if_pos ((nI_e3 hsm).mpr e3), if_pos ((nI_e3 hsm).mpr e3), show (3 : Int32) = nI 3 from rfl, m_x hm (by omega), bs, nI_1, w1, bs]
      unfold b_X9_loads_19
      rw [m_pl x1 hq, bs, vu_n (show 165 + q ≠ 3 by omega), if_neg (fun w => e2 ((nI_e2 hsm).mp w)), show (2 : Int32) = nI 2 from rfl, rA_n (by omega) (by decide), bs, t2, nI_1, v1, bs]
      refine ⟨d1, p1, va_up X 3 (X 3 + 1), rfl, rfl, s1, hR.tt (by omega) (by omega) x1 (by unfold gS; rw [a1]) (fun k _ _ => c1 k (by omega)), fun r hr => ?_, vu_n (by omega), fun j hj h3 => vu_n h3, fun r hr => by unfold gS; rw [a1], fun r hr => c1 r (by omega)⟩
      rw [b1]
      by_cases e : r = 2
      · subst e; rw [up_s]; exact congrArg nI (vu_s).symm
      · rw [up_n e, vu_n (by omega)]; exact hT r hr
    · rw [if_neg (fun w => e3 ((nI_e3 hsm).mp w)), if_neg (fun w => e3 ((nI_e3 hsm).mp w))]
      unfold b_X9_loads_19
      rw [m_pl hm hq, bs, if_neg (fun w => e2 ((nI_e2 hsm).mp w))]
      exact ⟨d, p, X, rfl, rfl, SameX.rf, hR, hT, rfl, fun _ _ _ => rfl, fun _ _ => rfl, fun _ _ => rfl⟩
/-- n of the coldest are written back -/
theorem both_wb {n : Nat} (hn : n < 2 ^ 31) : ∀ (r m1 m2 v : Nat) (d p z : Pic) (X : Nat → Nat), v + r = n → r < m1 → r < m2 → RR st d p z X → PT p X → ∃ w d' p' z' X', L_X9_writeBack_40 (nI n) m1 d (nI v) = b_X9_writeBack_64 (nI n) d' (nI w) ∧ L_X3_writeColdest_2 (nI n) m2 p z (nI v) = some (nI w, p', z') ∧ SameX d d' ∧ RR st d' p' z' X' ∧ PT p' X' ∧ (∀ j, j < 165 → j ≠ 1 → X' j = X j) ∧ (∀ k, k ≠ 11 → gS p' k = gS p k) := by
  intro r
  induction r with
  | zero =>
    intro m1 m2 v d p z X hv h1 h2 hR hT
    obtain ⟨m1, rfl⟩ : ∃ k, m1 = k + 1 := ⟨m1 - 1, by omega⟩
    obtain ⟨m2, rfl⟩ : ∃ k, m2 = k + 1 := ⟨m2 - 1, by omega⟩
    have : v = n := by omega
    subst this
    refine ⟨v, d, p, z, X, ?_, ?_, SameX.rf, hR, hT, fun _ _ _ => rfl, fun _ _ => rfl⟩
    · show b_X9_writeBack_40 (nI v) _ d (nI v) = _
      unfold b_X9_writeBack_40
      rw [if_pos (nI_le (Nat.le_refl _) hn)]
    · show b_X3_writeColdest_2 (nI v) _ p z (nI v) = _
      unfold b_X3_writeColdest_2
      rw [if_pos (nI_le (Nat.le_refl _) hn)]
  | succ r ih =>
    intro m1 m2 v d p z X hv h1 h2 hR hT
    obtain ⟨m1, rfl⟩ : ∃ k, m1 = k + 1 := ⟨m1 - 1, by omega⟩
    obtain ⟨m2, rfl⟩ : ∃ k, m2 = k + 1 := ⟨m2 - 1, by omega⟩
    have hI := hR.2.2.2
    show ∃ w d' p' z' X', b_X9_writeBack_40 (nI n) (L_X9_writeBack_40 (nI n) m1) d (nI v) = _ ∧ b_X3_writeColdest_2 (nI n) (L_X3_writeColdest_2 (nI n) m2) p z (nI v) = _ ∧ _
    unfold b_X9_writeBack_40 b_X3_writeColdest_2
    rw [if_neg (nI_ge (by omega) hn), if_neg (nI_ge (by omega) hn), m_cf hR.1 hI, bs, p_cf hR.2.1 hI, bs]
    cases hc : cfX X with
    | none =>
      rw [if_pos (show oI none = -1 from rfl), if_neg (show ¬ 0 ≤ oI none by decide)]
      exact ⟨v, d, p, z, X, rfl, rfl, SameX.rf, hR, hT, fun _ _ _ => rfl, fun _ _ => rfl⟩
    | some c =>
      have c30 := (cf_some hI hc).1
      rw [oI_some, if_neg (nI_m1 (by omega)), if_pos (nI_pos' (by omega))]
      obtain ⟨d1, p1, z1, X1, e1, e2, s1, r1, wf, -, -⟩ := both_wc hR hc
      rw [e1, bs, e2, bs, nI_1]
      obtain ⟨w, d2, p2, z2, X2, y1, y2, y3, y4, y5, y6, y7⟩ := ih m1 m2 (v + 1) d1 p1 z1 X1 (by omega) (by omega) (by omega) r1 (wf.2.2.2.2.2.2.2.2.2.2 hT)
      exact ⟨w, d2, p2, z2, X2, y1, y2, s1.tr y3, y4, y5, fun j hj h1 => (y6 j hj h1).trans (wf.2.1 j hj h1), fun k hk => (y7 k hk).trans (wf.2.2.2.2.2.2.1 k hk)⟩
/-- the class notes a push -/
theorem p_np {n : Nat} (hg : gS p 14 = nI n) (hn : n < 30) : ∃ p', f_X3_notePushed p (nI q) = some p' ∧ gS p' 14 = nI (n + 1) ∧ (∀ k, k ≠ 14 → gS p' k = gS p k) ∧ (∀ k, k ≠ 12 → k ≠ 13 → p'.2 k = p.2 k) ∧ p'.2 12 = upd (p.2 12) 1 (p.2 12 1 + 1) := by
  unfold f_X3_notePushed
  obtain ⟨p1, w1, a1, b1, c1⟩ := wA_e (p := p) 12 (n := 4) (j := 1) (p.2 12 1 + 1) (by omega) (by decide)
  have g1 : gS p1 14 = nI n := by unfold gS; rw [a1]; exact hg
  obtain ⟨p2, w2, a2, b2, c2⟩ := wA_e (p := p1) 13 (n := 30) (j := n) (nI q) hn (by decide)
  obtain ⟨p3, w3, a3, b3, c3⟩ := pS_e p2 14 (gS p2 14 + 1)
  have e1 : rA p 12 4 1 = some (p.2 12 1) := rA_n (j := 1) (by omega) (by decide)
  have w1' : wA p 12 4 1 (p.2 12 1 + 1) = some p1 := w1
  rw [e1, bs, w1', bs, g1, if_neg (show ¬ (30 : Int32) ≤ nI n from nI_ge (b := 30) hn (by decide)), w2, bs, bs, w3]
  have g2 : gS p2 14 = nI n := by unfold gS; rw [a2]; exact g1
  refine ⟨p3, rfl, by rw [a3, g2, nI_1], fun k hk => ?_, fun k h1 h2 => ?_, ?_⟩
  · rw [b3 k hk]; unfold gS; rw [a2, a1]
  · rw [c3, c2 k h2, c1 k h1]
  · rw [c3, c2 12 (by decide), b1]
theorem both_go {lim : Nat} (hl : lim < 2 ^ 31) (x : Int32) : ∀ (r m1 m2 v : Nat) (d p z : Pic) (X : Nat → Nat), X 315 = r → v + r ≤ 30 → r < m1 → r < m2 → RR st d p z X → PT p (va_up X 2 (X 2 + v)) → gS p 0 = nI lim → gS p 14 = nI v → ∃ w d' p' z' X', L_X9_goes_2 (nI lim) m1 d (nI v) = some (nI w, d') ∧ L_X3_changeLimit_12 x m2 p z (nI v) = some (nI w, p', z') ∧ SameX d d' ∧ RR st d' p' z' X' ∧ PT p' (va_up X' 2 (X' 2 + w)) ∧ (∀ j, j < 165 → j ≠ 1 → X' j = X j) ∧ (∀ k, k < 11 → gS p' k = gS p k) := by
  intro r
  induction r using Nat.strongRecOn with
  | _ r ih =>
    intro m1 m2 v d p z X hr hv h1 h2 hR hT hg0 hg14
    obtain ⟨m1, rfl⟩ : ∃ k, m1 = k + 1 := ⟨m1 - 1, by omega⟩
    obtain ⟨m2, rfl⟩ : ∃ k, m2 = k + 1 := ⟨m2 - 1, by omega⟩
    have hI := hR.2.2.2
    have hfx := hI.fr
    have stop : ∀ (P : Prop), (P → ∃ w d' p' z' X', some (nI v, d) = some (nI w, d') ∧ some (gS p 14, p, z) = some (nI w, p', z') ∧ SameX d d' ∧ RR st d' p' z' X' ∧ PT p' (va_up X' 2 (X' 2 + w)) ∧ (∀ j, j < 165 → j ≠ 1 → X' j = X j) ∧ (∀ k, k < 11 → gS p' k = gS p k)) := by
      intro P _
      exact ⟨v, d, p, z, X, rfl, by rw [hg14], SameX.rf, hR, hT, fun _ _ _ => rfl, fun _ _ => rfl⟩
    show ∃ w d' p' z' X', b_X9_goes_2 (nI lim) (L_X9_goes_2 (nI lim) m1) d (nI v) = _ ∧ b_X3_changeLimit_12 x (L_X3_changeLimit_12 x m2) p z (nI v) = _ ∧ _
    unfold b_X9_goes_2 b_X3_changeLimit_12
    have hz0 : gS z 0 = nI (frsX X) := hR.2.2.1.1
    rw [m_fnow hR.1 hI.zw, bs, m_cf hR.1 hI, bs, p_cf hR.2.1 hI, bs, hg0, hz0]
    by_cases hf : frsX X ≤ lim
    · rw [if_pos (nI_le hf hl)]
      by_cases h30 : 30 ≤ v
      · rw [if_pos (show (30 : Int32) ≤ nI v from nI_le (a := 30) h30 (by omega))]
        exact stop True trivial
      · rw [if_neg (show ¬ (30 : Int32) ≤ nI v from nI_ge (b := 30) (by omega) (by decide)), if_pos (nI_le hf hl)]
        exact stop True trivial
    · rw [if_neg (nI_ge (by omega) (by omega))]
      cases hc : cfX X with
      | none =>
        rw [if_pos (show oI none = -1 from rfl)]
        by_cases h30 : 30 ≤ v
        · rw [if_pos (show (30 : Int32) ≤ nI v from nI_le (a := 30) h30 (by omega))]
          exact stop True trivial
        · rw [if_neg (show ¬ (30 : Int32) ≤ nI v from nI_ge (b := 30) (by omega) (by decide)), if_neg (nI_ge (by omega) (by omega)), if_neg (show ¬ 0 ≤ oI none by decide)]
          exact stop True trivial
      | some c =>
        have c30 := (cf_some hI hc).1
        obtain ⟨d1, p1, z1, X1, e1, e2, s1, r1, wf, w12, wx1⟩ := both_wc hR hc
        have hX1 := wf.1
        have hv30 : v < 30 := by omega
        rw [oI_some, if_neg (nI_m1 (by omega)), if_neg (show ¬ (30 : Int32) ≤ nI v from nI_ge (b := 30) hv30 (by decide)), if_neg (nI_ge (by omega) (by omega)), if_pos (nI_pos' (by omega)), e1, bs, e2, bs]
        obtain ⟨p2, y1, y2, y3, y4, y5⟩ := p_np (p := p1) (q := c) (n := v) (by rw [wf.2.2.2.2.2.2.1 14 (by decide)]; exact hg14) hv30
        dsimp only
        rw [y1, bs, nI_1]
        have pt1 : PT p1 (va_up X1 2 (X1 2 + v)) := by
          intro t ht
          have q1 := hT t ht
          rw [w12]
          by_cases e : t = 0
          · subst e
            rw [up_s, q1]
            show nI (va_up X 2 (X 2 + v) 1) + 1 = nI (va_up X1 2 (X1 2 + v) 1)
            rw [vu_n (by omega), vu_n (by omega), wx1, nI_1]
          · rw [up_n e, q1]
            by_cases e1 : t = 1
            · subst e1
              show nI (va_up X 2 (X 2 + v) 2) = nI (va_up X1 2 (X1 2 + v) 2)
              rw [vu_s, vu_s, wf.2.1 2 (by omega) (by omega)]
            · rw [vu_n (by omega), vu_n (by omega), wf.2.1 (1 + t) (by omega) (by omega)]
        have r2 : RR st d1 p2 z1 X1 := r1.of rfl (fun k _ _ => y4 k (by omega) (by omega)) (y3 11 (by decide))
        obtain ⟨w, d2, p3, z2, X2, q1, q2, q3, q4, q5, q6, q7⟩ := ih (X1 315) (by omega) m1 m2 (v + 1) d1 p2 z1 X1 rfl (by omega) (by omega) (by omega) r2 (by
          intro t ht
          have := pt1 t ht
          rw [y5]
          by_cases e : t = 1
          · subst e
            rw [up_s, this]
            show nI (va_up X1 2 (X1 2 + v) 2) + 1 = nI (va_up X1 2 (X1 2 + (v + 1)) 2)
            rw [vu_s, vu_s, nI_1]
            rfl
          · rw [up_n e, this, vu_n (by omega), vu_n (by omega)]) (by rw [y3 0 (by decide), wf.2.2.2.2.2.2.1 0 (by decide)]; exact hg0) y2
        exact ⟨w, d2, p3, z2, X2, q1, q2, s1.tr q3, q4, q5, fun j hj h1 => (q6 j hj h1).trans (wf.2.1 j hj h1), fun k hk => (q7 k hk).trans ((y3 k (by omega)).trans (wf.2.2.2.2.2.2.1 k (by omega)))⟩
end LD
