/-! (B) the coldest; dropping, writing out, on both sides -/
def RR (st : Nat) (d p z : Pic) (X : Nat → Nat) : Prop := MX d X ∧ PR p X ∧ ZR z X ∧ IX st X
def cfX (X : Nat → Nat) : Option Nat := (fnd (fun k => decide (X (1204 + X (285 + k)) = 0)) (X 315) 0).map (fun k => X (285 + k))
def WF (q : Nat) (p p' : Pic) (X X' : Nat → Nat) : Prop := X' 315 + 1 = X 315 ∧ (∀ j, j < 165 → j ≠ 1 → X' j = X j) ∧ (∀ r, r < 30 → r ≠ q → X' (165 + r) = X (165 + r)) ∧ (∀ j, 195 ≤ j → j < 225 → X' j = X j) ∧ (∀ j, 316 ≤ j → j < 796 → X' j = X j) ∧ frsX X' ≤ frsX X ∧ (∀ k, k ≠ 11 → gS p' k = gS p k) ∧ p'.2 5 = p.2 5 ∧ p'.2 9 = p.2 9 ∧ p'.2 13 = p.2 13 ∧ (PT p X → PT p' X')
section BO
variable {d p z : Pic} {X : Nat → Nat} {st q : Nat}
theorem p_pg (hq : q < 30) : f_X3_isPage (nI q) = some 1 := by
  unfold f_X3_isPage
  rw [if_neg (nI_pos (by omega)), li 30, if_neg (nI_ge hq (by decide))]
theorem m_pl (h : MX d X) (hq : q < 30) : f_X9_placeOf d (nI q) = some (nI (X (165 + q))) := by
  unfold f_X9_placeOf
  rw [li 165, nI_add, m_x h (by omega)]
  rfl
theorem cf_some (hI : IX st X) (h : cfX X = some q) : q < 30 ∧ X (165 + q) = 2 ∧ X (1204 + q) = 0 := by
  unfold cfX at h
  cases e : fnd (fun k => decide (X (1204 + X (285 + k)) = 0)) (X 315) 0 with
  | none => rw [e] at h; cases h
  | some k =>
    rw [e] at h
    cases h
    obtain ⟨-, k1, k2⟩ := fnd_some e
    obtain ⟨a1, a2⟩ := hI.age.1 k (by omega)
    exact ⟨a1, a2, by simpa using k2⟩
theorem m_cf (h : MX d X) (hI : IX st X) : f_X9_coldestFree d = some (oI (cfX X)) := by
  have h30 := hI.a30
  refine loop_fn (L := L_X9_coldestFree_2 d) (fin := fun o => some (oI (o.map (fun k => X (285 + k))))) (P := fun k => decide (X (1204 + X (285 + k)) = 0)) (m := X 315) (fun n => ?_) (fun n i hi => ?_) (X 315) 0 FU (by omega) (FU_ge (by omega))
  · show b_X9_coldestFree_2 d _ (nI (X 315)) = _
    unfold b_X9_coldestFree_2
    rw [li 315, m_x h (by omega), bs, if_pos (nI_le (Nat.le_refl _) (by omega))]
    rfl
  · show b_X9_coldestFree_2 d _ (nI i) = _
    unfold b_X9_coldestFree_2 f_X9_isHeld
    obtain ⟨a1, a2⟩ := hI.age.1 i hi
    have a3 := (hI.hld _ a1).1
    rw [li 315, m_x h (by omega), bs, if_neg (nI_ge hi (by omega)), li 285, nI_add, m_x h (by omega), bs, li 1204, nI_add, m_x h (by omega), bs, li 1, nI_add]
    by_cases e : X (1204 + X (285 + i)) = 0
    · rw [if_neg (fun c => by have := (nI_eq (by omega) (by omega)).mp c; omega), bs, if_pos rfl, if_pos (by simpa using e), bs]
      rfl
    · rw [if_pos (by rw [show X (1204 + X (285 + i)) = 1 by omega]), bs, if_neg (by decide), if_neg (by simpa using e)]
theorem p_cf (hp : PR p X) (hI : IX st X) : f_X3_coldestLoose p = some (oI (cfX X)) := by
  have h30 := hI.a30
  refine loop_fn (L := L_X3_coldestLoose_2 p) (fin := fun o => some (oI (o.map (fun k => X (285 + k))))) (P := fun k => decide (X (1204 + X (285 + k)) = 0)) (m := X 315) (fun n => ?_) (fun n i hi => ?_) (X 315) 0 FU (by omega) (FU_ge (by omega))
  · show b_X3_coldestLoose_2 p _ (nI (X 315)) = _
    unfold b_X3_coldestLoose_2
    rw [hp.2.2.2.2.1, if_pos (nI_le (Nat.le_refl _) (by omega))]
    rfl
  · show b_X3_coldestLoose_2 p _ (nI i) = _
    unfold b_X3_coldestLoose_2
    obtain ⟨a1, a2⟩ := hI.age.1 i hi
    have a3 := (hI.hld _ a1).1
    rw [hp.2.2.2.2.1, if_neg (nI_ge hi (by omega)), li 30, if_neg (nI_ge (show i < 30 by omega) (by decide)), rA_n (by omega) (by decide), bs, hp.2.2.2.2.2 i hi, p_pg a1, bs, if_neg (by decide), rA_n a1 (by decide), bs, hp.2.2.1 _ a1, nI_1]
    by_cases e : X (1204 + X (285 + i)) = 0
    · rw [if_pos (by rw [e]; rfl), if_pos (by simpa using e)]
      rfl
    · rw [if_neg (nI_ne0 (by omega) (by omega)), if_neg (by simpa using e)]
/-- a page is dropped -/
theorem both_drop (h : RR st d p z X) (hq : q < 30) : ∃ d' p' z' X', f_X9_dropsOne d (nI q) = some d' ∧ f_X3_dropPage p z (nI q) = some (p', z') ∧ SameX d d' ∧ RR st d' p' z' X' ∧ X' (165 + q) = 0 ∧ (∀ j, j < 165 → X' j = X j) ∧ (∀ k, k ≠ 11 → gS p' k = gS p k) ∧ (∀ k, 11 ≤ k → p'.2 k = p.2 k) := by
  obtain ⟨hm, hp, hz, hI⟩ := h
  have hpl := hI.sml (165 + q) (by omega)
  unfold f_X9_dropsOne f_X3_dropPage
  rw [m_pl hm hq, bs, p_pg hq, bs, if_neg (show ¬ (1 : Int32) = 0 by decide), rA_n hq (by decide), bs, hp.1 q hq]
  by_cases e : X (165 + q) = 2
  · have e' : nI (X (165 + q)) = 2 := by rw [e]; rfl
    rw [if_pos e', if_pos e']
    obtain ⟨f, d1, d2, p1, z1, f1, f2, l1, l2, s2, m2, l3, zr, a1, a2, a3, a4, a5⟩ := both_lv hm hp hz hI hq e
    rw [l1, bs, l2, bs, l3, bs]
    obtain ⟨t1, t2, t3, t4, t5, t6⟩ := hI.pag q hq e
    have h16 := sl16 _ (hI.zw _ t1).1
    have h30 := hI.a30
    obtain ⟨d3, w3, s3, m3⟩ := m_w m2 (j := 165 + q) 0 (by omega)
    obtain ⟨d4, w4, s4, m4⟩ := m_w m3 (j := 1204 + q) 0 (by omega)
    obtain ⟨p2, v2, b2, b3, b4⟩ := wA_e (p := p1) 4 (n := 30) 0 hq (by decide)
    refine ⟨d4, p2, z1, lX X q (X (225 + q)) (X (255 + q)) f 0, ?_, ?_, (s2.tr s3).tr s4, ⟨m4, ?_, lX_zr zr hI hq e f1, hI.lv hq e rfl rfl f1 f2 (by omega) (by omega)⟩, ?_, fun j hj => ?_, fun k hk => ?_, fun k hk => ?_⟩
    · unfold b_X9_dropsOne_19
      rw [li 165, nI_add, li 1204, nI_add, li 0, w3, bs, w4]
      rfl
    · unfold b_X3_dropPage_23
      rw [v2]
      rfl
    · refine PR.lv hp hI hq e (by omega) (by omega) f1 ?_ ?_ ?_ ?_ ?_ ?_ ?_ (fun k hk => ?_)
      · rw [b3, a2 4 (by decide) (by decide)]; rfl
      · rw [b4 5 (by decide), a2 5 (by decide) (by decide)]
      · rw [b4 6 (by decide), a2 6 (by decide) (by decide)]
      · rw [b4 7 (by decide), a2 7 (by decide) (by decide)]
      · rw [b4 8 (by decide), a3]
      · rw [b4 9 (by decide), a2 9 (by decide) (by decide)]
      · show p2.1 11 = _
        rw [b2]
        exact a4
      · rw [b4 10 (by decide)]
        exact a5 k hk
    · rw [lX_p hq t1 (by omega) (by omega) h30 hq, if_pos rfl]
    · exact lX_o hq t1 (by omega) (by omega) h30 (by omega)
    · show p2.1 k = _
      rw [b2]
      exact a1 k hk
    · rw [b4 k (by omega), a2 k (by omega) (by omega)]
  · have e' : ¬ nI (X (165 + q)) = 2 := fun c => e ((nI_eq hpl (by decide)).mp c)
    rw [if_neg e', if_neg e']
    obtain ⟨d3, w3, s3, m3⟩ := m_w hm (j := 165 + q) 0 (by omega)
    obtain ⟨d4, w4, s4, m4⟩ := m_w m3 (j := 1204 + q) 0 (by omega)
    obtain ⟨p2, v2, b2, b3, b4⟩ := wA_e (p := p) 4 (n := 30) 0 hq (by decide)
    have hh : X (1204 + q) = 0 := by
      have := hI.hld q hq
      by_cases c : X (1204 + q) = 1
      · exact absurd (this.2 c) e
      · omega
    have vp : ∀ r, r < 30 → va_up (va_up X (165 + q) 0) (1204 + q) 0 (165 + r) = if r = q then 0 else X (165 + r) := by
      intro r hr
      rw [vu_n (by omega)]
      by_cases g : r = q
      · subst g; rw [vu_s, if_pos rfl]
      · rw [vu_n (by omega), if_neg g]
    have vh : ∀ r, r < 30 → va_up (va_up X (165 + q) 0) (1204 + q) 0 (1204 + r) = X (1204 + r) := by
      intro r hr
      by_cases g : r = q
      · subst g; rw [vu_s, hh]
      · rw [vu_n (by omega), vu_n (by omega)]
    have vo : ∀ j, j ≠ 165 + q → j ≠ 1204 + q → va_up (va_up X (165 + q) 0) (1204 + q) 0 j = X j := fun j a b => by rw [vu_n b, vu_n a]
    refine ⟨d4, p2, z, va_up (va_up X (165 + q) 0) (1204 + q) 0, ?_, ?_, s3.tr s4, ⟨m4, ⟨fun r hr => ?_, fun r hr h2 => ?_, fun r hr => ?_, fun r hr h0 i hi => ?_, ?_, fun k hk => ?_⟩, ?_, ?_⟩, ?_, fun j hj => ?_, fun k hk => ?_, fun k hk => ?_⟩
    · unfold b_X9_dropsOne_19
      rw [li 165, nI_add, li 1204, nI_add, li 0, w3, bs, w4]
      rfl
    · unfold b_X3_dropPage_23
      rw [v2]
      rfl
    · rw [b3, vp r hr]
      by_cases g : r = q
      · subst g; rw [up_s, if_pos rfl]; rfl
      · rw [up_n g, if_neg g]; exact hp.1 r hr
    · rw [vp r hr] at h2
      by_cases g : r = q
      · rw [if_pos g] at h2; omega
      · rw [if_neg g] at h2
        rw [b4 5 (by decide), b4 6 (by decide), b4 7 (by decide), vo _ (by omega) (by omega), vo _ (by omega) (by omega), vo _ (by omega) (by omega)]
        exact hp.2.1 r hr h2
    · rw [b4 8 (by decide), vh r hr]
      exact hp.2.2.1 r hr
    · rw [vp r hr] at h0
      by_cases g : r = q
      · rw [if_pos g] at h0; omega
      · rw [if_neg g] at h0
        rw [b4 9 (by decide), vo _ (by omega) (by omega)]
        exact hp.2.2.2.1 r hr h0 i hi
    · rw [vo _ (by omega) (by omega)]
      show p2.1 11 = _
      rw [b2]
      exact hp.2.2.2.2.1
    · have h30 := hI.a30
      rw [vo _ (by omega) (by omega)] at hk
      rw [b4 10 (by decide), vo _ (by omega) (by omega)]
      exact hp.2.2.2.2.2 k hk
    · exact hz.eq (fun j a b => vo _ (by omega) (by omega))
    · refine hI.eq ((hI.sml.up (by omega)).up (by omega)) (by rw [vo _ (by omega) (by omega)]; exact hI.li) (fun j a b => vo _ (by omega) (by omega)) (fun j a b => vo _ (by omega) (by omega)) (fun r hr => ?_) (fun r hr _ => vo _ (by omega) (by omega)) (fun r hr => ?_)
      · rw [vp r hr]
        by_cases g : r = q
        · subst g
          rw [if_pos rfl]
          exact ⟨fun c => by omega, fun c => absurd c e⟩
        · rw [if_neg g]
      · rw [vh r hr]
        exact hI.hld r hr
    · rw [vp q hq, if_pos rfl]
    · exact vo _ (by omega) (by omega)
    · show p2.1 k = _
      rw [b2]
      rfl
    · exact b4 k (by omega)
/-- the coldest is written out -/
theorem both_wc (h : RR st d p z X) (hc : cfX X = some q) : ∃ d' p' z' X', f_X9_writesColdest d = some (nI q, d') ∧ f_X3_writeOut p z (nI q) = some (p', z') ∧ SameX d d' ∧ RR st d' p' z' X' ∧ WF q p p' X X' ∧ p'.2 12 = upd (p.2 12) 0 (p.2 12 0 + 1) ∧ X' 1 = X 1 + 1 := by
  obtain ⟨hm, hp, hz, hI⟩ := h
  obtain ⟨hq, e, hh⟩ := cf_some hI hc
  unfold f_X9_writesColdest f_X3_writeOut
  rw [m_cf hm hI, bs, hc, rA_n hq (by decide), bs, hp.1 q hq, if_pos (by rw [e]; rfl)]
  show ∃ d' p' z' X', ((f_X9_leaves d (nI q)).bind _) = some _ ∧ _
  obtain ⟨f, d1, d2, p1, z1, f1, f2, l1, l2, s2, m2, l3, zr, a1, a2, a3, a4, a5⟩ := both_lv hm hp hz hI hq e
  rw [l1, bs]
  show ∃ d' p' z' X', ((f_X9_forgets d1 (nI q)).bind _) = some _ ∧ _
  rw [l2, bs, l3, bs]
  obtain ⟨t1, t2, t3, t4, t5, t6⟩ := hI.pag q hq e
  have h16 := sl16 _ (hI.zw _ t1).1
  have h30 := hI.a30
  have hi16 : X (255 + q) < 16 := by omega
  have hf30 : f < 30 := by omega
  obtain ⟨d3, w3, s3, m3⟩ := m_w m2 (j := 165 + q) 3 (by omega)
  have lo := fun {j : Nat} => lX_o (X := X) (v := 3) hq t1 hi16 hf30 h30 (j := j)
  have e1 : va_up (fgX (lvX X (X (225 + q)) (X (255 + q))) f) (165 + q) 3 1 = X 1 := by
    rw [← lo (by omega : 1 < 165 ∨ _)]
    unfold lX
    rw [vu_n (by omega : (1 : Nat) ≠ 1204 + q)]
  obtain ⟨d4, w4, s4, m4⟩ := m_w m3 (j := 1) (X 1 + 1) (by omega)
  obtain ⟨p2, v2, b2, b3, b4⟩ := wA_e (p := p1) 4 (n := 30) 3 hq (by decide)
  obtain ⟨p3, v3, c2, c3, c4⟩ := wA_e (p := p2) 12 (n := 4) (j := 0) (p.2 12 0 + 1) (by omega) (by decide)
  have hx := hI.lv (v := 3) hq e rfl rfl f1 f2 (by omega) (by omega)
  have hpr : PR p3 (lX X q (X (225 + q)) (X (255 + q)) f 3) := by
    refine PR.lv hp hI hq e (by omega) (by omega) f1 ?_ ?_ ?_ ?_ ?_ ?_ ?_ (fun k hk => ?_)
    · rw [c4 4 (by decide), b3, a2 4 (by decide) (by decide)]; rfl
    · rw [c4 5 (by decide), b4 5 (by decide), a2 5 (by decide) (by decide)]
    · rw [c4 6 (by decide), b4 6 (by decide), a2 6 (by decide) (by decide)]
    · rw [c4 7 (by decide), b4 7 (by decide), a2 7 (by decide) (by decide)]
    · rw [c4 8 (by decide), b4 8 (by decide), a3]
    · rw [c4 9 (by decide), b4 9 (by decide), a2 9 (by decide) (by decide)]
    · show p3.1 11 = _
      rw [c2, b2]
      exact a4
    · rw [c4 10 (by decide), b4 10 (by decide)]
      exact a5 k hk
  have hzr := lX_zr (v := 3) zr hI hq e f1
  have m5 : MX d4 (va_up (lX X q (X (225 + q)) (X (255 + q)) f 3) 1 (X 1 + 1)) := m4.cg (fun j hj => by
    by_cases g : j = 1
    · rw [g, vu_s, vu_s]
    · rw [vu_n g, vu_n g]
      by_cases g2 : j = 1204 + q
      · rw [g2]
        show va_up _ (1204 + q) 0 (1204 + q) = _
        have e315 : lvX X (X (225 + q)) (X (255 + q)) 315 = X 315 := lv_o (by omega) (by omega)
        rw [vu_s, vu_n (by omega), fg_o hf30 (by rw [e315]; exact h30) (by omega), lv_o (by omega) (by omega), hh]
      · exact vu_n g2)
  have ln := lX_n (X := X) (f := f) (v := 3) hq t1 hi16
  have lp := fun {r : Nat} => lX_p (X := X) (v := 3) hq t1 hi16 hf30 h30 (q := r)
  have lf : frsX (lX X q (X (225 + q)) (X (255 + q)) f 3) ≤ frsX X := by
    have := frs_lv (X := X) (z := X (225 + q)) hi16 (by omega) t1
    rw [frs_eq (fun j a b => lX_z (v := 3) hq t1 hi16 hf30 h30 a b)]
    exact this
  refine ⟨d4, p3, z1, va_up (lX X q (X (225 + q)) (X (255 + q)) f 3) 1 (X 1 + 1), ?_, ?_, (s2.tr s3).tr s4, ⟨m5, ?_, ?_, ?_⟩, ⟨?_, fun j hj hj1 => ?_, fun r hr hne => ?_, fun j ha hb => ?_, fun j ha hb => ?_, ?_, fun k hk => ?_, ?_, ?_, ?_, fun ht => fun t ht4 => ?_⟩, ?_, vu_s⟩
  · show ((f_X9_writes d2 (nI q)).bind _) = _
    unfold f_X9_writes
    rw [li 165, nI_add, li 3, w3, bs, li 1, m_x m3 (by omega), bs, nI_add, e1, w4]
    rfl
  · unfold b_X3_writeOut_15
    rw [v2, bs, li 0, rA_n (by omega) (by decide), bs, b4 12 (by decide), a2 12 (by decide) (by decide), v3]
    rfl
  · generalize lX X q (X (225 + q)) (X (255 + q)) f 3 = L at *
    refine ⟨fun r hr => by rw [vu_n (by omega)]; exact hpr.1 r hr, fun r hr h2 => ?_, fun r hr => by rw [vu_n (by omega)]; exact hpr.2.2.1 r hr, fun r hr h0 i hi => ?_, by rw [vu_n (by omega)]; exact hpr.2.2.2.2.1, fun k hk => ?_⟩
    · rw [vu_n (by omega)] at h2
      rw [vu_n (by omega), vu_n (by omega), vu_n (by omega)]
      exact hpr.2.1 r hr h2
    · rw [vu_n (by omega)] at h0
      rw [vu_n (by omega)]
      exact hpr.2.2.2.1 r hr h0 i hi
    · rw [vu_n (by omega)] at hk
      rw [vu_n (by omega)]
      exact hpr.2.2.2.2.2 k hk
  · exact hzr.eq (fun j a b => vu_n (by omega))
  · generalize lX X q (X (225 + q)) (X (255 + q)) f 3 = L at *
    exact hx.eq (hx.sml.upt (by omega)) (by rw [vu_n (by omega)]; exact hx.li) (fun j a b => vu_n (by omega)) (fun j a b => vu_n (by omega)) (fun r hr => by rw [vu_n (by omega)]) (fun r hr _ => vu_n (by omega)) (fun r hr => by rw [vu_n (by omega)]; exact hx.hld r hr)
  · rw [vu_n (by omega), ln]
    omega
  · rw [vu_n hj1, lo (by omega)]
  · rw [vu_n (by omega), lp hr, if_neg hne]
  · rw [vu_n (by omega), lo (by omega)]
  · rw [vu_n (by omega), lo (by omega)]
  · rw [frs_eq (fun j a b => vu_n (by omega))]
    exact lf
  · show p3.1 k = _
    rw [c2, b2]
    exact a1 k hk
  · rw [c4 5 (by decide), b4 5 (by decide), a2 5 (by decide) (by decide)]
  · rw [c4 9 (by decide), b4 9 (by decide), a2 9 (by decide) (by decide)]
  · rw [c4 13 (by decide), b4 13 (by decide), a2 13 (by decide) (by decide)]
  · rw [c3, b4 12 (by decide), a2 12 (by decide) (by decide)]
    by_cases g : t = 0
    · subst g
      rw [up_s, vu_s, ht 0 (by omega), nI_1]
    · rw [up_n g, vu_n (by omega), lo (by omega)]
      exact ht t ht4
  · rw [c3, b4 12 (by decide), a2 12 (by decide) (by decide)]
end BO
