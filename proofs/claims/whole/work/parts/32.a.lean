/-! (B) storing -/
def cpX (X : Nat → Nat) (q k : Nat) : Nat → Nat := fun j => if 316 + 16 * q ≤ j ∧ j < 316 + 16 * q + 16 then X (5 + 16 * k + (j - (316 + 16 * q))) else X j
theorem cp_o {X : Nat → Nat} {q k j : Nat} (h : j < 316 + 16 * q ∨ 316 + 16 * q + 16 ≤ j) : cpX X q k j = X j := if_neg (by omega)
theorem cp_i {X : Nat → Nat} {q k i : Nat} (h : i < 16) : cpX X q k (316 + 16 * q + i) = X (5 + 16 * k + i) := by
  unfold cpX
  rw [if_pos ⟨by omega, by omega⟩]
  exact congrArg X (by omega)
/-- the cells of data, as the row has them -/
def dcX (X : Nat → Nat) (k : Nat) : Nat → Int32 := fun j => nI (X (5 + 16 * k + j))
/-- what a state is beside pool and zones: limit, step, big; its data, their sizes -/
def ST (st bg nd : Nat) (t p e : Pic) (X : Nat → Nat) : Prop := gS p 0 = nI (X 0) ∧ gS p 1 = nI st ∧ gS p 2 = nI bg ∧ (∀ j, j < 16 * nd → e.2 0 j = nI (X (5 + j))) ∧ ∀ k, k < nd → t.2 1 k = nI (TT (dcX X k) 0).1
section ST
variable {d p z e t : Pic} {X : Nat → Nat} {st q k : Nat}
theorem m_cpy (h : MX d X) (hq : q < 30) (hk : k < 10) : ∃ D n', L_X9_stores_12 (nI q) (nI k) FU d (nI 0) = L_X9_stores_12 (nI q) (nI k) (n' + 1) D (nI 16) ∧ SameX d D ∧ MX D (cpX X q k) := by
  have key : ∀ (r n y : Nat) (D : Pic), y + r = 16 → r < n → SameX d D → MX D (fun j => if 316 + 16 * q ≤ j ∧ j < 316 + 16 * q + y then X (5 + 16 * k + (j - (316 + 16 * q))) else X j) → ∃ D' n', L_X9_stores_12 (nI q) (nI k) n D (nI y) = L_X9_stores_12 (nI q) (nI k) (n' + 1) D' (nI 16) ∧ SameX d D' ∧ MX D' (cpX X q k) := by
    intro r
    induction r with
    | zero =>
      intro n y D hy hn hs hx
      have : y = 16 := by omega
      subst this
      cases n with
      | zero => omega
      | succ n => exact ⟨D, n, rfl, hs, hx⟩
    | succ r ih =>
      intro n y D hy hn hs hx
      cases n with
      | zero => omega
      | succ n =>
        show ∃ D' n', b_X9_stores_12 (nI q) (nI k) (L_X9_stores_12 (nI q) (nI k) n) D (nI y) = _ ∧ _
        unfold b_X9_stores_12
        have e1 : f_X9_dataAt (nI k) = some (nI (5 + 16 * k)) := by
          unfold f_X9_dataAt
          rw [li 5, li 16, nI_mul, nI_add]
        have e2 : rA D 20 1234 (nI (5 + 16 * k + y)) = some (nI (X (5 + 16 * k + y))) := by
          rw [m_x hx (by omega)]
          exact congrArg (fun t => some (nI t)) (if_neg (by omega))
        obtain ⟨D1, w1, s1, x1⟩ := m_w hx (j := 316 + 16 * q + y) (X (5 + 16 * k + y)) (by omega)
        rw [if_neg (show ¬ (16 : Int32) ≤ nI y from nI_ge (b := 16) (by omega) (by omega)), e1, bs, nI_add, e2, bs, li 316, li 16, nI_mul, nI_add, nI_add, w1, bs, nI_1]
        refine ih n (y + 1) D1 (by omega) (by omega) (hs.tr s1) (x1.cg (fun j hj => ?_))
        by_cases g : j = 316 + 16 * q + y
        · subst g
          rw [vu_s, if_pos ⟨by omega, by omega⟩]
          exact congrArg X (by omega)
        · rw [vu_n g]
          by_cases w : 316 + 16 * q ≤ j ∧ j < 316 + 16 * q + y
          · rw [if_pos ⟨w.1, by omega⟩]
            exact (if_pos w).symm
          · rw [if_neg (by omega)]
            exact (if_neg w).symm
  exact key 16 FU 0 d (by omega) (FU_ge (by omega)) SameX.rf (h.cg (fun j _ => if_neg (by omega)))
/-- a page that is nowhere gets cells and a size -/
theorem RR.cp {d' p' : Pic} {s : Nat} (h : RR st d p z X) (hq : q < 30) (hk : k < 10) (h0 : X (165 + q) = 0) (hs : s < 2 ^ 31) {Y : Nat → Nat} (hY : Y = cpX X q k ∨ Y = va_up (cpX X q k) (195 + q) s) (hd : MX d' Y) (h4 : ∀ r, r ≠ 5 → r ≠ 9 → p'.2 r = p.2 r) (h11 : gS p' 11 = gS p 11) (h5 : ∀ r, r < 30 → r ≠ q → p'.2 5 r = p.2 5 r) (h9 : ∀ r, r < 30 → r ≠ q → ∀ i, i < 16 → p'.2 9 (r * 16 + i) = p.2 9 (r * 16 + i)) : RR st d' p' z Y := by
  obtain ⟨hm, hp, hz, hI⟩ := h
  have hy : ∀ j, (j < 316 ∨ 796 ≤ j) → j ≠ 195 + q → Y j = X j := by
    intro j h1 h2
    rcases hY with rfl | rfl
    · exact cp_o (by omega)
    · rw [vu_n h2]; exact cp_o (by omega)
  have hS : Sml Y := by
    intro j hj
    have hc : cpX X q k j < 2 ^ 31 := by
      unfold cpX
      split
      · exact hI.sml _ (by omega)
      · exact hI.sml _ hj
    rcases hY with rfl | rfl
    · exact hc
    · by_cases e : j = 195 + q
      · rw [e, vu_s]; exact hs
      · rw [vu_n e]; exact hc
  refine ⟨hd, ⟨fun r hr => ?_, fun r hr h2 => ?_, fun r hr => ?_, fun r hr h2 i hi => ?_, ?_, fun j hj => ?_⟩, hz.eq (fun j a b => hy j (by omega) (by omega)), ?_⟩
  · rw [h4 4 (by decide) (by decide), hy _ (by omega) (by omega)]; exact hp.1 r hr
  · rw [hy _ (by omega) (by omega)] at h2
    have hne : r ≠ q := fun e => by subst e; omega
    rw [h5 r hr hne, h4 6 (by decide) (by decide), h4 7 (by decide) (by decide), hy _ (by omega) (by omega), hy _ (by omega) (by omega), hy _ (by omega) (by omega)]
    exact hp.2.1 r hr h2
  · rw [h4 8 (by decide) (by decide), hy _ (by omega) (by omega)]; exact hp.2.2.1 r hr
  · rw [hy _ (by omega) (by omega)] at h2
    have hne : r ≠ q := fun e => by subst e; omega
    rw [h9 r hr hne i hi]
    have : Y (316 + 16 * r + i) = X (316 + 16 * r + i) := by
      rcases hY with rfl | rfl
      · exact cp_o (by omega)
      · rw [vu_n (by omega)]; exact cp_o (by omega)
    rw [this]
    exact hp.2.2.2.1 r hr h2 i hi
  · rw [h11, hy _ (by omega) (by omega)]; exact hp.2.2.2.2.1
  · rw [hy 315 (by omega) (by omega)] at hj
    have := hI.a30
    rw [h4 10 (by decide) (by decide), hy _ (by omega) (by omega)]
    exact hp.2.2.2.2.2 j hj
  · refine hI.eq hS ?_ (fun j a b => hy j (by omega) (by omega)) (fun j a b => hy j (by omega) (by omega)) (fun r hr => by rw [hy _ (by omega) (by omega)]) (fun r hr h2 => ?_) (fun r hr => ?_)
    · rw [hy 0 (by omega) (by omega)]; exact hI.li
    · exact hy _ (by omega) (fun e => by have : r = q := by omega
                                         subst this; omega)
    · rw [hy _ (by omega) (by omega)]; exact hI.hld r hr
/-- a page that isn't in the pool is a word -/
theorem RR.wd {d' p' : Pic} (h : RR st d p z X) (hq : q < 30) (h0 : X (165 + q) ≠ 2) (hc : ∀ i, i < 16 → p.2 9 (q * 16 + i) = nI (X (316 + 16 * q + i))) (hd : MX d' (va_up X (165 + q) 1)) (h4 : p'.2 4 = upd (p.2 4) q 1) (h5 : ∀ r, r ≠ 4 → p'.2 r = p.2 r) (h11 : gS p' 11 = gS p 11) : RR st d' p' z (va_up X (165 + q) 1) := by
  obtain ⟨hm, hp, hz, hI⟩ := h
  have hy : ∀ j, j ≠ 165 + q → va_up X (165 + q) 1 j = X j := fun j hj => vu_n hj
  refine ⟨hd, ⟨fun r hr => ?_, fun r hr h2 => ?_, fun r hr => ?_, fun r hr h2 i hi => ?_, ?_, fun j hj => ?_⟩, hz.eq (fun j a b => hy j (by omega)), ?_⟩
  · rw [h4]
    by_cases e : r = q
    · subst e; rw [up_s, vu_s]; rfl
    · rw [up_n e, hy _ (by omega)]; exact hp.1 r hr
  · have hne : r ≠ q := fun e => by subst e; rw [vu_s] at h2; omega
    rw [hy _ (by omega)] at h2
    rw [h5 5 (by decide), h5 6 (by decide), h5 7 (by decide), hy _ (by omega), hy _ (by omega), hy _ (by omega)]
    exact hp.2.1 r hr h2
  · rw [h5 8 (by decide), hy _ (by omega)]; exact hp.2.2.1 r hr
  · rw [h5 9 (by decide), hy _ (by omega)]
    by_cases e : r = q
    · subst e; exact hc i hi
    · rw [hy _ (by omega)] at h2
      exact hp.2.2.2.1 r hr h2 i hi
  · rw [h11, hy _ (by omega)]; exact hp.2.2.2.2.1
  · rw [hy 315 (by omega)] at hj
    have := hI.a30
    rw [h5 10 (by decide), hy _ (by omega)]
    exact hp.2.2.2.2.2 j hj
  · refine hI.eq (hI.sml.up (by decide)) ?_ (fun j a b => hy j (by omega)) (fun j a b => hy j (by omega)) (fun r hr => ?_) (fun r hr h2 => hy _ (by omega)) (fun r hr => ?_)
    · rw [hy 0 (by omega)]; exact hI.li
    · by_cases e : r = q
      · subst e; rw [vu_s]; exact ⟨fun w => by omega, fun w => absurd w h0⟩
      · rw [hy _ (by omega)]
    · rw [hy _ (by omega)]; exact hI.hld r hr
theorem FC.fd {a b : Pic} (h : FC a b) : FD a b := ⟨fun k hk => h.1 k (by omega), fun k hk _ => h.2 k (by omega)⟩
theorem FC.mx {a b : Pic} (h : FC a b) (hx : MX a X) : MX b X := fun j hj => by rw [h.2 20 (by omega)]; exact hx j hj
theorem MX.fd {a b : Pic} (h : a.2 20 = b.2 20) (hx : MX a X) : MX b X := fun j hj => by rw [← h]; exact hx j hj
end ST
