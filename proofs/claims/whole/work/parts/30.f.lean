/-! (B) ages -/
def sh (f k : Nat) : Nat := if k < f then k else k + 1
section AG
variable {d p : Pic} {X : Nat → Nat}
/-- the class takes a page out of the ages -/
theorem p_age {a : Nat → Nat} {n f q : Nat} (hn : gS p 11 = nI n) (hn30 : n ≤ 30) (ha : ∀ k, k < n → p.2 10 k = nI (a k)) (hb : ∀ k, k < n → a k < 30) (hf : f < n) (hq : a f = q) (hu : ∀ k, k < n → a k = q → k = f) : ∃ p', f_X3_leaveAges p (nI q) = some p' ∧ gS p' 11 = nI (n - 1) ∧ (∀ k, k ≠ 11 → gS p' k = gS p k) ∧ (∀ k, k ≠ 10 → p'.2 k = p.2 k) ∧ ∀ k, k < n - 1 → p'.2 10 k = nI (a (sh f k)) := by
  have hq30 := hb f hf
  rw [hq] at hq30
  have key : ∀ (r i m : Nat) (P : Pic), i + r = n → r < m → P.1 = p.1 → (∀ k, k ≠ 10 → P.2 k = p.2 k) → (∀ k, k < (if i ≤ f then i else i - 1) → P.2 10 k = nI (a (sh f k))) → (∀ k, i ≤ k → k < n → P.2 10 k = nI (a k)) → ∃ p', L_X3_leaveAges_4 (nI q) m P (nI (if i ≤ f then i else i - 1)) (nI i) = some p' ∧ gS p' 11 = nI (n - 1) ∧ (∀ k, k ≠ 11 → gS p' k = gS p k) ∧ (∀ k, k ≠ 10 → p'.2 k = p.2 k) ∧ ∀ k, k < n - 1 → p'.2 10 k = nI (a (sh f k)) := by
    intro r
    induction r with
    | zero =>
      intro i m P hi hm h1 h2 h3 h4
      cases m with
      | zero => omega
      | succ m =>
        have : i = n := by omega
        subst this
        rw [if_neg (by omega)] at h3 ⊢
        show ∃ p', b_X3_leaveAges_4 (nI q) _ P (nI (i - 1)) (nI i) = some p' ∧ _
        unfold b_X3_leaveAges_4 b_X3_leaveAges_49
        rw [show gS P 11 = nI i by unfold gS; rw [h1]; exact hn, if_pos (nI_le (Nat.le_refl _) (by omega)), bs]
        obtain ⟨p1, w1, a1, b1, c1⟩ := pS_e P 11 (nI (i - 1))
        rw [w1]
        refine ⟨p1, rfl, a1, fun k hk => ?_, fun k hk => by rw [c1, h2 k hk], fun k hk => by rw [c1, h3 k hk]⟩
        rw [b1 k hk]; unfold gS; rw [h1]
    | succ r ih =>
      intro i m P hi hm h1 h2 h3 h4
      cases m with
      | zero => omega
      | succ m =>
        have hin : i < n := by omega
        show ∃ p', b_X3_leaveAges_4 (nI q) (L_X3_leaveAges_4 (nI q) m) P (nI (if i ≤ f then i else i - 1)) (nI i) = some p' ∧ _
        unfold b_X3_leaveAges_4
        have hbi := hb i hin
        rw [show gS P 11 = nI n by unfold gS; rw [h1]; exact hn, if_neg (nI_ge hin (by omega)), li 30, if_neg (nI_ge (show i < 30 by omega) (by decide)), rA_n (by omega) (by decide), bs, bs, h4 i (Nat.le_refl _) hin, nI_1, nI_1]
        by_cases e : a i = q
        · have hif := hu i hin e
          subst hif
          rw [if_pos (by rw [e]), if_pos (Nat.le_refl _)]
          rw [if_pos (Nat.le_refl _)] at h3
          have := ih (i + 1) m P (by omega) (by omega) h1 h2
          rw [if_neg (by omega), Nat.add_sub_cancel] at this
          exact this h3 (fun k a b => h4 k (by omega) b)
        · rw [if_neg (fun w => e ((nI_eq (by omega) (by omega)).mp w))]
          have hne : i ≠ f := fun w => e (by rw [w]; exact hq)
          generalize hl : (if i ≤ f then i else i - 1) = lf at h3 ⊢
          have hlf : lf ≤ i ∧ lf + 1 = (if i + 1 ≤ f then i + 1 else i + 1 - 1) ∧ sh f lf = i := by
            unfold sh
            by_cases w : i ≤ f
            · rw [if_pos w] at hl
              subst hl
              rw [if_pos (by omega), if_pos (by omega)]
              exact ⟨Nat.le_refl _, rfl, rfl⟩
            · rw [if_neg w] at hl
              subst hl
              rw [if_neg (by omega), if_neg (by omega)]
              exact ⟨by omega, by omega, by omega⟩
          obtain ⟨P4, w4, a4, b4, c4⟩ := wA_e (p := P) 10 (n := 30) (j := lf) (nI (a i)) (by omega) (by decide)
          rw [w4, bs, hlf.2.1]
          refine ih (i + 1) m P4 (by omega) (by omega) (a4.trans h1) (fun k hk => (c4 k hk).trans (h2 k hk)) (fun k hk => ?_) (fun k h5 h6 => ?_)
          · rw [← hlf.2.1] at hk
            rw [b4]
            by_cases w : k = lf
            · subst w; rw [up_s, hlf.2.2]
            · rw [up_n w]; exact h3 k (by omega)
          · rw [b4, up_n (by omega)]; exact h4 k (by omega) h6
  have := key n 0 FU p (by omega) (by unfold FU; omega) rfl (fun _ _ => rfl) (fun k hk => by rw [if_pos (Nat.zero_le _)] at hk; omega) (fun k _ hk => ha k hk)
  rw [if_pos (Nat.zero_le _)] at this
  exact this
/-- which age a page has -/
def agI (X : Nat → Nat) (q : Nat) : Option Nat := fnd (fun k => decide (X (285 + k) = q)) (X 315) 0
def fgX (X : Nat → Nat) (f : Nat) : Nat → Nat := fun j => if j = 315 then X 315 - 1 else if 285 + f ≤ j ∧ j + 1 < 285 + X 315 then X (j + 1) else X j
theorem m_agI (h : MX d X) (hl : Sml X) (hn : X 315 ≤ 30) {q : Nat} (hq : q < 2 ^ 31) : f_X9_ageOf d (nI q) = some (oI (agI X q)) := by
  refine loop_fn (L := L_X9_ageOf_2 d (nI q)) (fin := fun o => some (oI o)) (P := fun k => decide (X (285 + k) = q)) (m := X 315) (fun n => ?_) (fun n i hi => ?_) (X 315) 0 FU (by omega) (FU_ge (by omega))
  · show b_X9_ageOf_2 d (nI q) _ (nI (X 315)) = _
    unfold b_X9_ageOf_2
    rw [li 315, m_x h (by omega), bs, if_pos (nI_le (Nat.le_refl _) (by omega))]
    rfl
  · show b_X9_ageOf_2 d (nI q) _ (nI i) = _
    unfold b_X9_ageOf_2
    rw [li 315, m_x h (by omega), bs, if_neg (nI_ge hi (by omega)), li 285, nI_add, m_x h (by omega), bs, nI_1]
    by_cases e : X (285 + i) = q
    · rw [if_pos (by rw [e]), if_pos (by simpa using e)]
      rfl
    · rw [if_neg (fun w => e ((nI_eq (hl _ (by omega)) hq).mp w)), if_neg (by simpa using e)]
theorem m_fg (h : MX d X) (hl : Sml X) (hn : X 315 ≤ 30) {q f : Nat} (hq : q < 2 ^ 31) (hf : agI X q = some f) : ∃ d', f_X9_forgets d (nI q) = some d' ∧ SameX d d' ∧ MX d' (fgX X f) := by
  have hf1 := (fnd_some hf).2.1
  rw [Nat.zero_add] at hf1
  unfold f_X9_forgets
  rw [m_agI h hl hn hq, bs, hf]
  have key : ∀ (r k m : Nat) (D : Pic), k + r + 1 = X 315 → r < m → f ≤ k → SameX d D → MX D (fun j => if 285 + f ≤ j ∧ j < 285 + k then X (j + 1) else X j) → ∃ d', L_X9_forgets_8 (nI q) m D (nI k) = some d' ∧ SameX d d' ∧ MX d' (fgX X f) := by
    intro r
    induction r with
    | zero =>
      intro k m D hk hm hfk hs hx
      cases m with
      | zero => omega
      | succ m =>
        show ∃ d', b_X9_forgets_8 (nI q) _ D (nI k) = some d' ∧ _
        unfold b_X9_forgets_8
        have e3 : rA D 20 1234 (nI 315) = some (nI (X 315)) := by
          rw [m_x hx (by omega)]
          exact congrArg (fun t => some (nI t)) (if_neg (by omega))
        rw [li 315, e3, bs, bs, nI_1, if_pos (nI_le (by omega) (by omega)), li 1, nI_sub (by omega)]
        obtain ⟨d4, w4, s4, x4⟩ := m_w hx (j := 315) (X 315 - 1) (by omega)
        rw [w4]
        refine ⟨d4, rfl, hs.tr s4, fun j hj => ?_⟩
        rw [x4 j hj]
        refine congrArg nI ?_
        unfold fgX
        by_cases e : j = 315
        · subst e; rw [vu_s, if_pos rfl]
        · rw [vu_n e, if_neg e]
          show (if 285 + f ≤ j ∧ j < 285 + k then X (j + 1) else X j) = _
          by_cases w : 285 + f ≤ j ∧ j < 285 + k
          · rw [if_pos w, if_pos ⟨w.1, by omega⟩]
          · rw [if_neg w, if_neg (fun z => w ⟨z.1, by omega⟩)]
    | succ r ih =>
      intro k m D hk hm hfk hs hx
      cases m with
      | zero => omega
      | succ m =>
        show ∃ d', b_X9_forgets_8 (nI q) (L_X9_forgets_8 (nI q) m) D (nI k) = some d' ∧ _
        unfold b_X9_forgets_8
        have e3 : rA D 20 1234 (nI 315) = some (nI (X 315)) := by
          rw [m_x hx (by omega)]
          exact congrArg (fun t => some (nI t)) (if_neg (by omega))
        have e4 : rA D 20 1234 (nI (285 + k + 1)) = some (nI (X (285 + k + 1))) := by
          rw [m_x hx (by omega)]
          exact congrArg (fun t => some (nI t)) (if_neg (by omega))
        rw [li 315, e3, bs, bs, nI_1, if_neg (nI_ge (by omega) (by omega)), li 285, nI_add, nI_1, e4, bs]
        obtain ⟨d6, w6, s6, x6⟩ := m_w hx (j := 285 + k) (X (285 + k + 1)) (by omega)
        rw [w6, bs]
        refine ih (k + 1) m d6 (by omega) (by omega) (by omega) (hs.tr s6) (fun j hj => ?_)
        rw [x6 j hj]
        refine congrArg nI ?_
        show va_up _ (285 + k) _ j = (if 285 + f ≤ j ∧ j < 285 + (k + 1) then X (j + 1) else X j)
        by_cases e : j = 285 + k
        · subst e; rw [vu_s, if_pos ⟨by omega, by omega⟩]
        · rw [vu_n e]
          show (if 285 + f ≤ j ∧ j < 285 + k then X (j + 1) else X j) = _
          by_cases w : 285 + f ≤ j ∧ j < 285 + k
          · rw [if_pos w, if_pos ⟨w.1, by omega⟩]
          · rw [if_neg w, if_neg (fun z => w ⟨z.1, by omega⟩)]
  refine key (X 315 - f - 1) f FU d (by omega) (by unfold FU; omega) (Nat.le_refl _) SameX.rf (fun j hj => ?_)
  show _ = nI (if 285 + f ≤ j ∧ j < 285 + f then X (j + 1) else X j)
  rw [if_neg (by omega)]
  exact h j hj
end AG
