/-! (B) from nothing at all -/
def clrX (X : Nat → Nat) (l : Nat) : Nat → Nat := fun j => if j = 0 then l else if 5 ≤ j ∧ j < 165 then X j else 0
theorem clr_z {X : Nat → Nat} {l j : Nat} (h : j ≠ 0) (h' : j < 5 ∨ 165 ≤ j) : clrX X l j = 0 := by
  unfold clrX
  rw [if_neg h, if_neg (by omega)]
theorem clr_d {X : Nat → Nat} {l j : Nat} (h : 5 ≤ j) (h' : j < 165) : clrX X l j = X j := by
  unfold clrX
  rw [if_neg (by omega), if_pos ⟨h, h'⟩]
theorem clr_0 {X : Nat → Nat} {l : Nat} : clrX X l 0 = l := if_pos rfl
theorem clr_cl {X : Nat → Nat} {l j : Nat} : clX (clrX X l) j = 0 := clr_z (by omega) (by omega)
theorem clr_sl {X : Nat → Nat} {l j i : Nat} : slX (clrX X l) j i = 0 := clr_z (by omega) (by omega)
theorem clr_fil {X : Nat → Nat} {l j : Nat} : filX (clrX X l) j = 0 := sm_0 (fun i _ _ => by rw [if_pos clr_sl])
theorem clr_frs {X : Nat → Nat} {l : Nat} : frsX (clrX X l) = 0 := sm_0 (fun i _ _ => by rw [clr_cl]; rfl)
theorem IX.clr {X : Nat → Nat} {st l : Nat} (hs : ∀ j, 5 ≤ j → j < 165 → X j < 2 ^ 31) (hl : l ≤ 24) : IX st (clrX X l) := by
  refine ⟨⟨fun j hj => ?_, fun j hj => ?_, by rw [clr_0]; exact hl, by rw [clr_frs]; omega⟩, ⟨?_, ?_⟩, ⟨?_, ?_, ?_⟩, ?_, ?_, ?_, ?_⟩
  · by_cases g : j < 165
    · rw [clr_d hj g]; exact hs j hj g
    · rw [clr_z (by omega) (by omega)]; decide
  · rw [clr_cl, clr_fil]; exact ⟨by decide, Nat.zero_le _⟩
  · rw [clr_z (by decide) (by decide)]
    exact (sm_0 (fun i _ _ => by rw [clr_z (by omega) (by omega), if_neg (by decide)])).symm
  · rw [clr_z (j := 315) (by decide) (by decide)]
    exact sm_0 (fun i _ _ => clr_fil)
  · intro k hk
    rw [clr_z (j := 315) (by decide) (by decide)] at hk
    omega
  · intro k i hk
    rw [clr_z (j := 315) (by decide) (by decide)] at hk
    omega
  · intro p hp h2
    rw [clr_z (by omega) (by omega)] at h2
    omega
  · intro p hp h2
    rw [clr_z (by omega) (by omega)] at h2
    omega
  · intro z i hz hi h
    exact absurd clr_sl h
  · intro z hz h
    exact absurd clr_cl h
  · intro p hp
    rw [clr_z (by omega) (by omega)]
    exact ⟨by omega, fun h => by omega⟩
section BG
variable {d p z e t : Pic} {X : Nat → Nat} {st q k bg nd : Nat}
theorem fl_1 {p : Pic} {k n : Nat} {v : Int32} : (flA p k n v).1 = p.1 := rfl
theorem fl_g {p : Pic} {k n r : Nat} {v : Int32} : gS (flA p k n v) r = gS p r := rfl
theorem fl_s {p : Pic} {k n j : Nat} {v : Int32} (h : j < n) : (flA p k n v).2 k j = v := by
  show va_up p.2 k (flF n (p.2 k) v) k j = v
  rw [vu_s]
  exact if_pos h
theorem fl_n {p : Pic} {k n r : Nat} {v : Int32} (h : r ≠ k) : (flA p k n v).2 r = p.2 r := vu_n h
theorem z_clr {l : Nat} : ∃ z', f_X7_clear z = some z' ∧ ZR z' (clrX X l) := by
  refine ⟨_, rfl, ?_, fun j hj => ?_, fun j i hj hi => ?_⟩
  · rw [clr_frs]; rfl
  · rw [clr_cl, clr_fil]
    exact ⟨by rw [fl_n (by decide), fl_n (by decide), fl_n (by decide), fl_n (by decide), fl_s hj]; rfl, by rw [fl_n (by decide), fl_n (by decide), fl_n (by decide), fl_s hj]; rfl, by rw [fl_n (by decide), fl_n (by decide), fl_s hj]; rfl, by rw [fl_n (by decide), fl_s hj]; rfl⟩
  · rw [clr_sl, fl_s (by omega)]; rfl
theorem p_bg (l : Nat) (a b : Int32) : ∃ p' z', f_X3_begin p z (nI l) a b = some (p', z') ∧ PR p' (clrX X l) ∧ ZR z' (clrX X l) ∧ PT p' (clrX X l) ∧ gS p' 0 = nI l ∧ gS p' 1 = a ∧ gS p' 2 = b := by
  obtain ⟨z', w, hz⟩ := z_clr (z := z) (X := X) (l := l)
  refine ⟨pS (flA (pS (flA (flA (pS (pS (pS p 0 (nI l)) 1 a) 2 b) 4 30 0) 8 30 0) 11 0) 12 4 0) 14 0, z', ?_, ⟨fun q hq => ?_, fun q hq h => ?_, fun q hq => ?_, fun q hq h => ?_, ?_, fun k hk => ?_⟩, hz, fun i hi => ?_, ?_, ?_, ?_⟩
  · unfold f_X3_begin
    rw [bs, bs, bs, w, bs, bs, bs, bs, bs, bs]
  · rw [clr_z (by omega) (by omega), pS_a, fl_n (by decide), pS_a, fl_n (by decide), fl_s hq]; rfl
  · rw [clr_z (by omega) (by omega)] at h; omega
  · rw [clr_z (by omega) (by omega), pS_a, fl_n (by decide), pS_a, fl_s hq]; rfl
  · rw [clr_z (by omega) (by omega)] at h; omega
  · rw [clr_z (by decide) (by decide), gS_n (by decide), fl_g, gS_s]; rfl
  · rw [clr_z (by decide) (by decide)] at hk; omega
  · rw [clr_z (by omega) (by omega), pS_a, fl_s hi]; rfl
  · rw [gS_n (by decide), fl_g, gS_n (by decide), fl_g, fl_g, gS_n (by decide), gS_n (by decide), gS_s]
  · rw [gS_n (by decide), fl_g, gS_n (by decide), fl_g, fl_g, gS_n (by decide), gS_s]
  · rw [gS_n (by decide), fl_g, gS_n (by decide), fl_g, fl_g, gS_s]
theorem m_clr (h : MX d X) : ∃ d', f_X9_clears d = some d' ∧ SameX d d' ∧ MX d' (clrX X (X 0)) := by
  have key : ∀ (k j n : Nat) (D : Pic), j + k = 1234 → k < n → SameX d D → MX D (fun i => if i < j then clrX X (X 0) i else X i) → ∃ D', L_X9_clears_2 n D (nI j) = some D' ∧ SameX d D' ∧ MX D' (clrX X (X 0)) := by
    intro k
    induction k with
    | zero =>
      intro j n D hj hn h1 h2
      cases n with
      | zero => omega
      | succ n =>
        have : j = 1234 := by omega
        subst this
        refine ⟨D, ?_, h1, h2.cg (fun i hi => (if_pos hi).symm)⟩
        show b_X9_clears_2 _ D (nI 1234) = _
        unfold b_X9_clears_2
        rw [if_pos (by decide)]
    | succ k ih =>
      intro j n D hj hn h1 h2
      cases n with
      | zero => omega
      | succ n =>
        have e0 : L_X9_clears_2 (n + 1) D (nI j) = b_X9_clears_2 (L_X9_clears_2 n) D (nI j) := rfl
        have e1 : ¬ (1234 : Int32) ≤ nI j := nI_ge (b := 1234) (by omega) (by decide)
        have stay : clrX X (X 0) j = X j → MX D (fun i => if i < j + 1 then clrX X (X 0) i else X i) := fun hc => h2.cg (fun i hi => by
          by_cases g : i = j
          · subst g
            rw [if_pos (by omega), if_neg (by omega)]; exact hc
          · by_cases g' : i < j
            · rw [if_pos (by omega), if_pos g']
            · rw [if_neg (by omega), if_neg g'])
        by_cases g0 : j = 0
        · subst g0
          rw [e0]
          unfold b_X9_clears_2
          rw [if_neg e1, if_pos (show nI 0 = 0 from rfl)]
          show ∃ D', L_X9_clears_2 n D (nI 0 + 1) = _ ∧ _
          rw [nI_1]
          exact ih 1 n D (by omega) (by omega) h1 (stay clr_0)
        · by_cases g5 : 5 ≤ j ∧ j < 165
          · rw [e0]
            unfold b_X9_clears_2 f_X9_in
            rw [if_neg e1, if_neg (fun w => g0 ((nI_e0 (by omega)).mp w)), if_neg (show ¬ nI j < 5 from nI_nlt (b := 5) g5.1 (by omega)), if_neg (show ¬ (164 : Int32) < nI j from nI_nlt (a := 164) (by omega) (by decide)), bs, if_neg (by decide), nI_1]
            exact ih (j + 1) n D (by omega) (by omega) h1 (stay (clr_d g5.1 g5.2))
          · obtain ⟨D1, w1, s1, x1⟩ := m_w h2 0 (j := j) (by omega)
            have hx : MX D1 (fun i => if i < j + 1 then clrX X (X 0) i else X i) := x1.cg (fun i hi => by
              by_cases g : i = j
              · subst g
                rw [if_pos (by omega), vu_s]; exact clr_z g0 (by omega)
              · rw [vu_n g]
                by_cases g' : i < j
                · rw [if_pos (by omega), if_pos g']
                · rw [if_neg (by omega), if_neg g'])
            have hin : f_X9_in (nI j) 5 164 = some 0 := by
              unfold f_X9_in
              by_cases g : j < 5
              · rw [if_pos (show nI j < 5 from nI_lt (b := 5) g (by decide))]
              · rw [if_neg (show ¬ nI j < 5 from nI_nlt (b := 5) (by omega) (by omega)), if_pos (show (164 : Int32) < nI j from nI_lt (a := 164) (by omega) (by omega))]
            rw [e0]
            unfold b_X9_clears_2
            rw [if_neg e1, if_neg (fun w => g0 ((nI_e0 (by omega)).mp w)), hin, bs, if_pos rfl, show (0 : Int32) = nI 0 from rfl, w1, bs, nI_1]
            exact ih (j + 1) n D1 (by omega) (by omega) (h1.tr s1) hx
  exact key 1234 0 FU d (by omega) (FU_ge (by omega)) SameX.rf (h.cg (fun i hi => by rw [if_neg (by omega)]))
/-- both from nothing at all -/
theorem both_bg {l : Nat} (h : MX d X) (hs : ∀ j, 5 ≤ j → j < 165 → X j < 2 ^ 31) (hl : l ≤ 24) (a b : Int32) : ∃ d1 d' p' z', f_X9_clears d = some d1 ∧ wA d1 20 1234 0 (nI l) = some d' ∧ SameX d d' ∧ f_X3_begin p z (nI l) a b = some (p', z') ∧ RR st d' p' z' (clrX X l) ∧ PT p' (clrX X l) ∧ gS p' 0 = nI l ∧ gS p' 1 = a ∧ gS p' 2 = b := by
  obtain ⟨d1, w1, s1, x1⟩ := m_clr h
  obtain ⟨d2, w2, s2, x2⟩ := m_w x1 l (j := 0) (by decide)
  obtain ⟨p', z', w3, a1, a2, a3, a4, a5, a6⟩ := p_bg (p := p) (z := z) (X := X) l a b
  refine ⟨d1, d2, p', z', w1, w2, s1.tr s2, w3, ⟨x2.cg (fun i hi => ?_), a1, a2, IX.clr hs hl⟩, a3, a4, a5, a6⟩
  by_cases g : i = 0
  · subst g; rw [vu_s, clr_0]
  · rw [vu_n g]; unfold clrX; rw [if_neg g, if_neg g]
end BG
