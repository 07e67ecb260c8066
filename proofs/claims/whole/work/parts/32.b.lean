/-! (B) storing, on both sides -/
section SU
variable {d p z e t : Pic} {X : Nat → Nat} {st q k bg nd : Nat}
theorem RR.of {d' p' : Pic} (h : RR st d p z X) (hd : d'.2 20 = d.2 20) (hp : ∀ r, 4 ≤ r → r < 11 → p'.2 r = p.2 r) (h11 : gS p' 11 = gS p 11) : RR st d' p' z X := by
  obtain ⟨hm, ⟨q1, q2, q3, q4, q5, q6⟩, hz, hI⟩ := h
  refine ⟨MX.fd hd.symm hm, ⟨fun r hr => ?_, fun r hr h2 => ?_, fun r hr => ?_, fun r hr h2 i hi => ?_, ?_, fun j hj => ?_⟩, hz, hI⟩
  · rw [hp 4 (by omega) (by omega)]; exact q1 r hr
  · rw [hp 5 (by omega) (by omega), hp 6 (by omega) (by omega), hp 7 (by omega) (by omega)]; exact q2 r hr h2
  · rw [hp 8 (by omega) (by omega)]; exact q3 r hr
  · rw [hp 9 (by omega) (by omega)]; exact q4 r hr h2 i hi
  · rw [h11]; exact q5
  · rw [hp 10 (by omega) (by omega)]; exact q6 j hj
theorem m_da (k : Nat) : f_X9_dataAt (nI k) = some (nI (5 + 16 * k)) := by
  unfold f_X9_dataAt
  rw [li 5, li 16, nI_mul, nI_add]
theorem both_st (h : RR st d p z X) (hT : PT p X) (hS : ST st bg nd t p e X) (hst : 1 ≤ st ∧ st ≤ 4) (hbg : bg ≤ 15) (hd3 : gS d 3 = nI st) (hd4 : gS d 4 = nI bg) (hq : q < 30) (hk : k < nd) (hn : nd ≤ 10) : ∃ v d' p' z' X' n, f_X9_stores d (nI q) (nI k) = some (v, d') ∧ f_X3_storePage p z e (nI q) (nI (k * 16)) (nI (TT (dcX X k) 0).1) = some (p', z') ∧ p'.2 4 q = v ∧ FD d d' ∧ RR st d' p' z' X' ∧ PT p' X' ∧ GN d' p' n ∧ (∀ j, j < 165 → j ≠ 1 → j ≠ 2 → X' j = X j) ∧ (∀ k, k < 11 → gS p' k = gS p k) := by
  obtain ⟨sg0, sg1, sg2, se, ssz⟩ := hS
  obtain ⟨d1, w1, a1, b1, c1⟩ := pS_e d 43 0
  obtain ⟨p2, w2, a2, b2, c2⟩ := pS_e p 14 0
  have r2 : RR st d1 p2 z X := h.of (by rw [c1]) (fun r _ _ => by rw [c2]) (b2 11 (by decide))
  obtain ⟨d3, p3, z3, X3, e1, e2, s3, r3, h0, hx, g3, g4⟩ := both_drop r2 hq
  have A : f_X9_stores d (nI q) (nI k) = L_X9_stores_12 (nI q) (nI k) FU d3 (nI 0) := by
    unfold f_X9_stores
    rw [bs, w1, e1, bs]
    rfl
  obtain ⟨d4, n4, w4, s4, x4⟩ := m_cpy r3.1 hq (k := k) (by omega)
  have hc4 : ∀ j, j < 16 → d4.2 20 (5 + 16 * k + j) = dcX X k j := fun j hj => by
    rw [x4 _ (by omega), cp_o (by omega), hx _ (by omega)]
    rfl
  obtain ⟨d5, w5, f5⟩ := m_al (d := d4) (c := dcX X k) (fr := 5 + 16 * k) (by omega) hc4
  obtain ⟨p4, w6, a6, b6, c6⟩ := cpA_n (p := p3) (q := e) (k := 9) (n := 480) (k0 := 0) (n0 := 160) (a := k * 16) (b := q * 16) (l := 16) (by omega) (by omega) (by decide) (by decide)
  have tb := tt_b (c := dcX X k)
  obtain ⟨p5, w7, a7, b7, c7⟩ := wA_e (p := p4) 5 (n := 30) (nI (TT (dcX X k) 0).1) hq (by decide)
  have hcl : ∀ i, i < 16 → p5.2 9 (q * 16 + i) = nI (X (5 + 16 * k + i)) := fun i hi => by
    rw [c7 9 (by decide), b6, if_pos ⟨by omega, by omega⟩, se _ (by omega)]
    exact congrArg (fun t => nI (X t)) (by omega)
  have gp5 : ∀ r, gS p5 r = gS p3 r := fun r => by unfold gS; rw [a7, a6]
  have B : f_X3_storePage p z e (nI q) (nI (k * 16)) (nI (TT (dcX X k) 0).1) = (f_X1_isWordSize (nI (TT (dcX X k) 0).1)).bind fun u6 => if u6 = 0 then if nI (TT (dcX X k) 0).1 ≤ (gS p5 2) then (f_X3_settle p5 z3 (nI q)).bind fun u7 => some (u7.1, u7.2) else (f_X3_writeOut p5 z3 (nI q)).bind fun u8 => some (u8.1, u8.2) else (wA p5 4 30 (nI q) 1).bind fun p_ad9 => some (p_ad9, z3) := by
    unfold f_X3_storePage
    rw [p_pg hq, bs, if_neg (by decide), if_neg (nI_pos (by omega)), show (160 : Int32) - 16 = nI 144 by decide, if_pos (nI_le (by omega) (by decide)), bs, w2, e2, bs]
    dsimp only
    rw [show (16 : Int32) = nI 16 from rfl, nI_mul, w6, bs, w7, bs]
  have fd5 : FD d d5 := by
    have f1 : FD d d1 := ⟨fun r hr => b1 r (by omega), fun r hr _ => by rw [c1]⟩
    exact f1.tr (s3.fd.tr (s4.fd.tr f5.fd))
  have g43 : gS d5 43 = nI 0 := by rw [f5.1 43 (by decide), s4.g, s3.g, a1]; rfl
  have g14 : gS p5 14 = nI 0 := by rw [gp5, g3 14 (by decide), a2]; rfl
  have gp : ∀ r, r < 11 → gS p5 r = gS p r := fun r hr => by rw [gp5, g3 r (by omega), b2 r (by omega)]
  have pt5 : ∀ Y : Nat → Nat, (∀ j, j < 165 → Y j = X j) → PT p5 Y := fun Y hY r hr => by
    rw [c7 12 (by decide), c6 12 (by decide), g4 12 (by omega), c2, hY _ (by omega)]
    exact hT r hr
  have h4' : ∀ r, r ≠ 5 → r ≠ 9 → p5.2 r = p3.2 r := fun r h5 h9 => by rw [c7 r h5, c6 r h9]
  have h5' : ∀ r, r < 30 → r ≠ q → p5.2 5 r = p3.2 5 r := fun r hr hne => by rw [b7, up_n hne, c6 5 (by decide)]
  have h9' : ∀ r, r < 30 → r ≠ q → ∀ i, i < 16 → p5.2 9 (r * 16 + i) = p3.2 9 (r * 16 + i) := fun r hr hne i hi => by
    rw [c7 9 (by decide), b6, if_neg (by omega)]
  have A2 : f_X9_stores d (nI q) (nI k) = if (if rnN (dcX X k) 0 = 16 then (1 : Int32) else 0) = 0 then (f_X9_cutAll d5 (nI (5 + 16 * k))).bind fun u6 => (wA u6.2 20 1234 (195 + nI q) u6.1).bind fun d_ad7 => (rA d_ad7 20 1234 (195 + nI q)).bind fun v8_ => if v8_ ≤ (gS d_ad7 4) then (f_X9_findsRoom d_ad7 (nI q)).bind fun u9 => b_X9_stores_122 (nI q) (nI k) u9 else (f_X9_writes d_ad7 (nI q)).bind fun u11 => b_X9_stores_122 (nI q) (nI k) u11 else (wA d5 20 1234 (165 + nI q) 1).bind fun d_ad12 => some (1, d_ad12) := by
    rw [A, w4]
    show b_X9_stores_12 (nI q) (nI k) _ d4 (nI 16) = _
    unfold b_X9_stores_12
    rw [if_pos (show (16 : Int32) ≤ nI 16 by decide), m_da, bs, w5, bs, bs]
  rw [A2, B]
  by_cases hw : rnN (dcX X k) 0 = 16
  · have s2 : (TT (dcX X k) 0).1 = 2 := tt_2.mpr hw
    have rr := r3.cp (d' := d5) (p' := p5) (s := 0) hq (by omega) h0 (by decide) (Or.inl rfl) (f5.mx x4) h4' (by rw [gp5]) h5' h9'
    obtain ⟨d6, w8, s8, x8⟩ := m_w rr.1 (j := 165 + q) 1 (by omega)
    obtain ⟨p6, w9, a9, b9, c9⟩ := wA_e (p := p5) 4 (n := 30) 1 hq (by decide)
    rw [if_pos hw, if_neg (by decide), li 165, nI_add, show (1 : Int32) = nI 1 from rfl, w8, bs]
    have e6 : f_X1_isWordSize (nI (TT (dcX X k) 0).1) = some (nI 1) := by rw [s2]; decide
    have w9' : wA p5 4 30 (nI q) (nI 1) = some p6 := w9
    rw [e6, bs, if_neg (by decide), w9', bs]
    refine ⟨_, d6, p6, z3, va_up (cpX X3 q k) (165 + q) 1, 0, rfl, rfl, ?_, fd5.tr s8.fd, ?_, ?_, ⟨?_, ?_, by omega, fun j hj => by omega⟩, fun j hj _ _ => ?_, fun r hr => ?_⟩
    · rw [b9, up_s]; rfl
    · exact rr.wd hq (by rw [cp_o (by omega)]; omega) (fun i hi => by rw [hcl i hi, cp_i hi, hx _ (by omega)]) x8 b9 c9 (by unfold gS; rw [a9])
    · intro r hr
      have := pt5 (va_up (cpX X3 q k) (165 + q) 1) (fun j hj => by rw [vu_n (by omega), cp_o (by omega), hx j hj]) r hr
      rw [c9 12 (by decide)]
      exact this
    · rw [s8.g]; exact g43
    · unfold gS; rw [a9]; exact g14
    · rw [vu_n (by omega), cp_o (by omega), hx j hj]
    · have : gS p6 r = gS p5 r := by unfold gS; rw [a9]
      rw [this, gp r hr]
  · have s3' : ¬ (TT (dcX X k) 0).1 = 2 := fun w => hw (tt_2.mp w)
    obtain ⟨d6, N, w8, f8, -, -, -⟩ := m_ca (d := d5) (c := dcX X k) (fr := 5 + 16 * k) (by omega) (fun j hj => by rw [f5.2 20 (by omega)]; exact hc4 j hj)
    obtain ⟨d7, w9, s9, x9⟩ := m_w (f8.mx (f5.mx x4)) (j := 195 + q) (TT (dcX X k) 0).1 (by omega)
    have rr := r3.cp (d' := d7) (p' := p5) (s := (TT (dcX X k) 0).1) hq (by omega) h0 (by omega) (Or.inr rfl) x9 h4' (by rw [gp5]) h5' h9'
    have e6 : f_X1_isWordSize (nI (TT (dcX X k) 0).1) = some 0 := by
      unfold f_X1_isWordSize
      exact if_neg (fun w => s3' ((nI_eq (b := 2) (by omega) (by omega)).mp w))
    have fd7 : FD d d7 := fd5.tr (f8.fd.tr s9.fd)
    have g7 : gS d7 43 = nI 0 := by rw [s9.g, f8.1 43 (by decide)]; exact g43
    have hY : ∀ j, j < 165 → va_up (cpX X3 q k) (195 + q) (TT (dcX X k) 0).1 j = X j := fun j hj => by rw [vu_n (by omega), cp_o (by omega), hx j hj]
    have hcl' : ∀ i, i < 16 → p5.2 9 (q * 16 + i) = nI (va_up (cpX X3 q k) (195 + q) (TT (dcX X k) 0).1 (316 + 16 * q + i)) := fun i hi => by rw [hcl i hi, vu_n (by omega), cp_i hi, hx _ (by omega)]
    have hpl : va_up (cpX X3 q k) (195 + q) (TT (dcX X k) 0).1 (165 + q) ≠ 2 := by rw [vu_n (by omega), cp_o (by omega)]; omega
    rw [if_neg hw, if_pos rfl, w8, bs]
    dsimp only
    rw [li 195, nI_add, w9, bs, m_x x9 (by omega), bs, vu_s, fd7.1 4 (by omega), hd4, e6, bs, if_pos rfl, gp 2 (by omega), sg2]
    have hb : ∀ (D : Pic) (Y : Nat → Nat), MX D Y → b_X9_stores_122 (nI q) (nI k) D = some (nI (Y (165 + q)), D) := fun D Y hD => by
      unfold b_X9_stores_122
      rw [m_pl hD hq, bs]
    by_cases hb1 : (TT (dcX X k) 0).1 ≤ bg
    · rw [if_pos (nI_le hb1 (by omega)), if_pos (nI_le hb1 (by omega))]
      have ho := ho17 st (by omega) (by omega) (TT (dcX X k) 0).1 (by omega) (by omega)
      have hp29 := rr.2.2.2.p29 hq hpl
      have e195 : va_up (cpX X3 q k) (195 + q) (TT (dcX X k) 0).1 (195 + q) = (TT (dcX X k) 0).1 := vu_s
      obtain ⟨d8, p8, z8, X8, n8, y1, y2, y3, y4, y5, y6, y7, y8⟩ := both_fr (st := st) (q := q) (s := hoN (TT (dcX X k) 0).1 st) _ d7 p5 z3 _ 0 0 FU FU rfl rr (pt5 _ hY) (by rw [gp 0 (by omega), sg0, hY 0 (by omega)]) ⟨hq, hpl, by rw [e195], by rw [e195]; omega, by rw [b7, up_s, e195], ho, hcl'⟩ ⟨g7, g14, by omega, fun j hj => by omega⟩ (by omega) (by omega) (by unfold FU; omega) (by unfold FU; omega)
      have e7 : f_X9_findsRoom d7 (nI q) = some d8 := by
        unfold f_X9_findsRoom
        rw [li 195, nI_add, m_x x9 (by omega), bs, e195, fd7.1 3 (by omega), hd3, X9_ho st (by omega) (by omega) _ (by omega) (by omega), bs]
        exact y1
      have e8 : f_X3_settle p5 z3 (nI q) = some (p8, z8) := by
        unfold f_X3_settle
        rw [rA_n hq (by decide), bs, b7, up_s, gp 1 (by omega), sg1, X0_ho st (by omega) (by omega) _ (by omega) (by omega), bs]
        exact y2
      rw [e7, bs, e8, bs, hb d8 X8 y4.1]
      refine ⟨_, d8, p8, z8, X8, n8, rfl, rfl, y4.2.1.1 q hq, fd7.tr y3, y4, y5, y6, fun j hj h1 h2 => ?_, fun r hr => ?_⟩
      · rw [y7 j hj h1 h2, hY j hj]
      · rw [y8 r hr, gp r hr]
    · rw [if_neg (nI_ge (by omega) (by omega)), if_neg (nI_ge (by omega) (by omega))]
      obtain ⟨d8, p8, X8, y1, y2, y3, y4, y5, y6, y7, y8, y9⟩ := both_wn rr hq hpl hcl'
      rw [y1, bs, y2, bs, hb d8 X8 y4.1]
      refine ⟨_, d8, p8, z3, X8, 0, rfl, rfl, y4.2.1.1 q hq, fd7.tr y3.fd, y4, y7 (pt5 _ hY), ⟨?_, ?_, by omega, fun j hj => by omega⟩, fun j hj h1 h2 => ?_, fun r hr => ?_⟩
      · rw [y3.g]; exact g7
      · rw [y8]; exact g14
      · rw [y6 j hj h1, hY j hj]
      · rw [y8, gp r hr]
end SU
