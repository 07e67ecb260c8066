/-! (B) what fullest and emptiest are; pushes noted; pages written that aren't in the pool -/
theorem itr_inv {β : Type} {st : Nat → β → β} {Q : Nat → β → Prop} {m : Nat} (hs : ∀ z b, z < m → Q z b → Q (z + 1) (st z b)) : ∀ (k z : Nat) (b : β), z + k = m → Q z b → Q m (itr st k z b)
  | 0, z, b, h, hq => by
    have : z = m := by omega
    subst this
    exact hq
  | k + 1, z, b, h, hq => itr_inv hs k (z + 1) (st z b) (by omega) (hs z b (by omega) hq)
theorem ful_sp {X : Nat → Nat} {s : Nat} {but : Option Nat} : (fulS X s but = none → ∀ j, j < 24 → but ≠ some j → loB X s j = false) ∧ (∀ c, fulS X s but = some c → c < 24 ∧ but ≠ some c ∧ loB X s c = true) := by
  refine itr_inv (Q := fun z b => (b = none → ∀ j, j < z → but ≠ some j → loB X s j = false) ∧ (∀ c, b = some c → c < 24 ∧ but ≠ some c ∧ loB X s c = true)) (fun z b hz hq => ?_) 24 0 none rfl ⟨fun _ j hj => by omega, fun c hc => by cases hc⟩
  unfold stF
  by_cases e : but = some z
  · rw [if_pos e]
    refine ⟨fun hb j hj hne => ?_, hq.2⟩
    by_cases g : j = z
    · subst g; exact absurd e hne
    · exact hq.1 hb j (by omega) hne
  · rw [if_neg e]
    by_cases l : loB X s z = true
    · rw [if_pos l]
      cases b with
      | none => exact ⟨fun hb => (by cases hb), fun c hc => by cases hc; exact ⟨hz, e, l⟩⟩
      | some c0 =>
        dsimp only
        split
        · exact ⟨fun hb => (by cases hb), fun c hc => by cases hc; exact ⟨hz, e, l⟩⟩
        · exact ⟨fun hb => (by cases hb), hq.2⟩
    · rw [if_neg l]
      refine ⟨fun hb j hj hne => ?_, hq.2⟩
      by_cases g : j = z
      · subst g; simpa using l
      · exact hq.1 hb j (by omega) hne
theorem emp_sp {X : Nat → Nat} {s : Nat} : (empS X s = none → ∀ j, j < 24 → loB X s j = false) ∧ (∀ c, empS X s = some c → c < 24 ∧ loB X s c = true ∧ ∀ j, j < 24 → loB X s j = true → filX X c ≤ filX X j) := by
  refine itr_inv (Q := fun z b => (b = none → ∀ j, j < z → loB X s j = false) ∧ (∀ c, b = some c → c < 24 ∧ loB X s c = true ∧ ∀ j, j < z → loB X s j = true → filX X c ≤ filX X j)) (fun z b hz hq => ?_) 24 0 none rfl ⟨fun _ j hj => by omega, fun c hc => by cases hc⟩
  unfold stE
  by_cases l : loB X s z = true
  · rw [if_pos l]
    cases b with
    | none =>
      refine ⟨fun hb => (by cases hb), fun c hc => ?_⟩
      cases hc
      refine ⟨hz, l, fun j hj hl => ?_⟩
      by_cases g : j = z
      · subst g; exact Nat.le_refl _
      · have := hq.1 rfl j (by omega)
        rw [this] at hl
        cases hl
    | some c0 =>
      obtain ⟨c1, c2, c3⟩ := hq.2 c0 rfl
      dsimp only
      split
      · rename_i le
        refine ⟨fun hb => (by cases hb), fun c hc => ?_⟩
        cases hc
        refine ⟨hz, l, fun j hj hl => ?_⟩
        by_cases g : j = z
        · subst g; exact Nat.le_refl _
        · have := c3 j (by omega) hl
          omega
      · rename_i le
        refine ⟨fun hb => (by cases hb), fun c hc => ?_⟩
        cases hc
        refine ⟨c1, c2, fun j hj hl => ?_⟩
        by_cases g : j = z
        · subst g; omega
        · exact c3 j (by omega) hl
  · rw [if_neg l]
    refine ⟨fun hb j hj => ?_, fun c hc => ?_⟩
    · by_cases g : j = z
      · subst g; simpa using l
      · exact hq.1 hb j (by omega)
    · obtain ⟨c1, c2, c3⟩ := hq.2 c hc
      refine ⟨c1, c2, fun j hj hl => ?_⟩
      by_cases g : j = z
      · subst g; exact absurd hl l
      · exact c3 j (by omega) hl
theorem fz_some {X : Nat → Nat} {s : Nat} (hw : ZW X) (hs : s < 17) (h0 : 0 < s) (h : frsX X + frN s ≤ 24) : ∃ z, fzX X = some z ∧ z < 24 ∧ clX X z = 0 := by
  cases e : fzX X with
  | some z =>
    obtain ⟨-, h1, h2⟩ := fnd_some e
    exact ⟨z, rfl, by omega, by simpa using h2⟩
  | none =>
    exfalso
    have h1 := fnd_none e
    have h2 : 24 ≤ frsX X := sm_ge 24 0 (fun j a b => by
      have := h1 j a b
      have hc : clX X j ≠ 0 := by simpa using this
      exact (fr_pos _ (hw j (by omega)).1 (by omega)).1)
    have := (fr_pos s hs h0).1
    omega
def FD (d d' : Pic) : Prop := (∀ k, k < 33 → gS d' k = gS d k) ∧ (∀ k, k < 33 → k ≠ 20 → d'.2 k = d.2 k)
theorem FD.rf {d : Pic} : FD d d := ⟨fun _ _ => rfl, fun _ _ _ => rfl⟩
theorem FD.tr {a b c : Pic} (h1 : FD a b) (h2 : FD b c) : FD a c := ⟨fun k hk => (h2.1 k hk).trans (h1.1 k hk), fun k hk hn => (h2.2 k hk hn).trans (h1.2 k hk hn)⟩
theorem SameX.fd {a b : Pic} (h : SameX a b) : FD a b := ⟨fun k _ => h.g k, fun k _ hk => h.2 k hk⟩
def GN (d p : Pic) (n : Nat) : Prop := gS d 43 = nI n ∧ gS p 14 = nI n ∧ n ≤ 30 ∧ ∀ j, j < n → d.2 42 j = p.2 13 j
section PN
variable {d p z : Pic} {X : Nat → Nat} {st q : Nat}
theorem RR.tt (h : RR st d p z X) {d' p' : Pic} {t v : Nat} (ht : t < 5) (h0 : t ≠ 0) (hd : MX d' (va_up X t v)) (h1 : gS p' 11 = gS p 11) (h2 : ∀ k, 4 ≤ k → k < 11 → p'.2 k = p.2 k) : RR st d' p' z (va_up X t v) := by
  obtain ⟨hm, hp, hz, hI⟩ := h
  have vo : ∀ j, 5 ≤ j → va_up X t v j = X j := fun j hj => vu_n (by omega)
  refine ⟨hd, ⟨fun r hr => ?_, fun r hr hr2 => ?_, fun r hr => ?_, fun r hr h0 i hi => ?_, ?_, fun k hk => ?_⟩, ?_, ?_⟩
  · rw [h2 4 (by omega) (by omega), vo _ (by omega)]; exact hp.1 r hr
  · rw [vo _ (by omega)] at hr2
    rw [h2 5 (by omega) (by omega), h2 6 (by omega) (by omega), h2 7 (by omega) (by omega), vo _ (by omega), vo _ (by omega), vo _ (by omega)]; exact hp.2.1 r hr hr2
  · rw [h2 8 (by omega) (by omega), vo _ (by omega)]; exact hp.2.2.1 r hr
  · rw [vo _ (by omega)] at h0
    rw [h2 9 (by omega) (by omega), vo _ (by omega)]; exact hp.2.2.2.1 r hr h0 i hi
  · rw [h1, vo _ (by omega)]; exact hp.2.2.2.2.1
  · rw [vo _ (by omega)] at hk
    rw [h2 10 (by omega) (by omega), vo _ (by omega)]; exact hp.2.2.2.2.2 k hk
  · exact hz.eq (fun j a b => vo _ (by omega))
  · exact hI.eq (hI.sml.upt ht) (by rw [vu_n (by omega)]; exact hI.li) (fun j a b => vo _ (by omega)) (fun j a b => vo _ (by omega)) (fun r hr => by rw [vo _ (by omega)]) (fun r hr _ => vo _ (by omega)) (fun r hr => by rw [vo _ (by omega)]; exact hI.hld r hr)
/-- a push is noted -/
theorem both_np {n : Nat} (h : RR st d p z X) (hg : GN d p n) (hn : n < 30) : ∃ d' p', f_X9_countsPushed d (nI q) = some d' ∧ f_X3_notePushed p (nI q) = some p' ∧ FD d d' ∧ RR st d' p' z (va_up X 2 (X 2 + 1)) ∧ GN d' p' (n + 1) ∧ (PT p X → PT p' (va_up X 2 (X 2 + 1))) ∧ (∀ k, k ≠ 14 → gS p' k = gS p k) ∧ (∀ k, k ≠ 12 → k ≠ 13 → p'.2 k = p.2 k) ∧ p'.2 12 = upd (p.2 12) 1 (p.2 12 1 + 1) := by
  obtain ⟨g1, g2, g3, g4⟩ := hg
  obtain ⟨d1, w1, a1, a2, a3⟩ := wA_e (p := d) 42 (n := 31) (j := n) (nI q) (by omega) (by decide)
  obtain ⟨d2, w2, b1, b2, b3⟩ := pS_e d1 43 (nI (n + 1))
  have m2 : MX d2 X := fun j hj => by rw [b3, a3 20 (by decide)]; exact h.1 j hj
  obtain ⟨d3, w3, s3, m3⟩ := m_w m2 (j := 2) (X 2 + 1) (by omega)
  obtain ⟨p1, v1, c1, c2, c3⟩ := wA_e (p := p) 12 (n := 4) (j := 1) (p.2 12 1 + 1) (by omega) (by decide)
  obtain ⟨p2, v2, e1, e2, e3⟩ := wA_e (p := p1) 13 (n := 30) (j := n) (nI q) (by omega) (by decide)
  obtain ⟨p3, v3, f1, f2, f3⟩ := pS_e p2 14 (nI (n + 1))
  have gp1 : gS p1 14 = nI n := by unfold gS; rw [c1]; exact g2
  have gp2 : gS p2 14 = nI n := by unfold gS; rw [e1, c1]; exact g2
  have gd1 : gS d1 43 = nI n := by unfold gS; rw [a1]; exact g1
  refine ⟨d3, p3, ?_, ?_, ?_, ?_, ⟨?_, ?_, by omega, fun j hj => ?_⟩, fun ht => fun t ht4 => ?_, fun k hk => ?_, fun k hk hk' => ?_, ?_⟩
  · unfold f_X9_countsPushed
    rw [g1, w1, bs, gd1, nI_1, w2, bs, li 2, m_x m2 (by omega), bs, nI_1, w3]
    rfl
  · unfold f_X3_notePushed
    rw [li 1, rA_n (by omega) (by decide), bs]
    show (wA p 12 4 (nI 1) (p.2 12 1 + 1)).bind _ = _
    rw [v1, bs, gp1, li 30, if_neg (nI_ge hn (by decide)), v2, bs, gp2, nI_add, v3]
    rfl
  · refine ⟨fun k hk => ?_, fun k hk hk' => ?_⟩
    · rw [s3.g k, b2 k (by omega)]
      unfold gS
      rw [a1]
    · rw [s3.2 k hk', b3, a3 k (by omega)]
  · refine h.tt (by omega) (by omega) m3 ?_ (fun k h1 h2 => ?_)
    · rw [f2 11 (by omega)]
      unfold gS
      rw [e1, c1]
    · rw [f3, e3 k (by omega), c3 k (by omega)]
  · rw [s3.g 43, b1]
  · exact f1
  · rw [s3.2 42 (by decide), b3, a2, f3, e2, c3 13 (by decide)]
    by_cases g : j = n
    · subst g; rw [up_s, up_s]
    · rw [up_n g, up_n g]; exact g4 j (by omega)
  · rw [f3, e3 12 (by decide), c2]
    by_cases g : t = 1
    · subst g
      rw [up_s, vu_s, ht 1 (by omega), nI_1]
    · rw [up_n g, vu_n (by omega)]; exact ht t ht4
  · rw [f2 k hk]
    unfold gS
    rw [e1, c1]
  · rw [f3, e3 k hk', c3 k hk]
  · rw [f3, e3 12 (by decide), c2]
/-- a page that isn't in the pool is written out -/
theorem both_wn (h : RR st d p z X) (hq : q < 30) (h2 : X (165 + q) ≠ 2) (hc : ∀ i, i < 16 → p.2 9 (q * 16 + i) = nI (X (316 + 16 * q + i))) : ∃ d' p' X', f_X9_writes d (nI q) = some d' ∧ f_X3_writeOut p z (nI q) = some (p', z) ∧ SameX d d' ∧ RR st d' p' z X' ∧ X' (165 + q) = 3 ∧ (∀ j, j < 165 → j ≠ 1 → X' j = X j) ∧ (PT p X → PT p' X') ∧ (∀ k, gS p' k = gS p k) ∧ (∀ k, k ≠ 12 → k ≠ 4 → p'.2 k = p.2 k) := by
  obtain ⟨hm, hp, hz, hI⟩ := h
  have hpl := hI.sml (165 + q) (by omega)
  obtain ⟨d1, w1, s1, m1⟩ := m_w hm (j := 165 + q) 3 (by omega)
  obtain ⟨d2, w2, s2, m2⟩ := m_w m1 (j := 1) (X 1 + 1) (by omega)
  obtain ⟨p1, v1, b1, b2, b3⟩ := wA_e (p := p) 4 (n := 30) 3 hq (by decide)
  obtain ⟨p2, v2, c1, c2, c3⟩ := wA_e (p := p1) 12 (n := 4) (j := 0) (p.2 12 0 + 1) (by omega) (by decide)
  have vo : ∀ j, j ≠ 165 + q → j ≠ 1 → va_up (va_up X (165 + q) 3) 1 (X 1 + 1) j = X j := fun j a b => by rw [vu_n b, vu_n a]
  have vp : ∀ r, r < 30 → va_up (va_up X (165 + q) 3) 1 (X 1 + 1) (165 + r) = if r = q then 3 else X (165 + r) := by
    intro r hr
    rw [vu_n (by omega)]
    by_cases g : r = q
    · subst g; rw [vu_s, if_pos rfl]
    · rw [vu_n (by omega), if_neg g]
  refine ⟨d2, p2, va_up (va_up X (165 + q) 3) 1 (X 1 + 1), ?_, ?_, s1.tr s2, ⟨m2, ⟨fun r hr => ?_, fun r hr hr2 => ?_, fun r hr => ?_, fun r hr h0 i hi => ?_, ?_, fun k hk => ?_⟩, ?_, ?_⟩, ?_, fun j hj hj1 => vo j (by omega) hj1, fun ht => fun t ht4 => ?_, fun k => ?_, fun k hk hk' => ?_⟩
  · unfold f_X9_writes
    rw [li 165, nI_add, li 3, w1, bs, li 1, m_x m1 (by omega), bs, nI_add, vu_n (by omega : (1 : Nat) ≠ 165 + q), w2]
    rfl
  · unfold f_X3_writeOut b_X3_writeOut_15
    rw [rA_n hq (by decide), bs, hp.1 q hq, if_neg (show ¬ nI (X (165 + q)) = 2 from fun c => h2 ((nI_eq hpl (by decide)).mp c)), v1, bs, li 0, rA_n (by omega) (by decide), bs, b3 12 (by decide), v2]
    rfl
  · rw [c3 4 (by decide), b2, vp r hr]
    by_cases g : r = q
    · subst g; rw [up_s, if_pos rfl]; rfl
    · rw [up_n g, if_neg g]; exact hp.1 r hr
  · rw [vp r hr] at hr2
    by_cases g : r = q
    · rw [if_pos g] at hr2; omega
    · rw [if_neg g] at hr2
      rw [c3 5 (by decide), c3 6 (by decide), c3 7 (by decide), b3 5 (by decide), b3 6 (by decide), b3 7 (by decide), vo _ (by omega) (by omega), vo _ (by omega) (by omega), vo _ (by omega) (by omega)]
      exact hp.2.1 r hr hr2
  · rw [c3 8 (by decide), b3 8 (by decide), vo _ (by omega) (by omega)]
    exact hp.2.2.1 r hr
  · rw [vp r hr] at h0
    rw [c3 9 (by decide), b3 9 (by decide), vo _ (by omega) (by omega)]
    by_cases g : r = q
    · subst g; exact hc i hi
    · rw [if_neg g] at h0; exact hp.2.2.2.1 r hr h0 i hi
  · rw [vo _ (by omega) (by omega)]
    show p2.1 11 = _
    rw [c1, b1]
    exact hp.2.2.2.2.1
  · have h30 := hI.a30
    rw [vo _ (by omega) (by omega)] at hk
    rw [c3 10 (by decide), b3 10 (by decide), vo _ (by omega) (by omega)]
    exact hp.2.2.2.2.2 k hk
  · exact hz.eq (fun j a b => vo _ (by omega) (by omega))
  · refine hI.eq ((hI.sml.up (by omega)).upt (by omega)) (by rw [vo _ (by omega) (by omega)]; exact hI.li) (fun j a b => vo _ (by omega) (by omega)) (fun j a b => vo _ (by omega) (by omega)) (fun r hr => ?_) (fun r hr _ => vo _ (by omega) (by omega)) (fun r hr => ?_)
    · rw [vp r hr]
      by_cases g : r = q
      · subst g
        rw [if_pos rfl]
        exact ⟨fun c => by omega, fun c => absurd c h2⟩
      · rw [if_neg g]
    · rw [vo _ (by omega) (by omega)]
      exact hI.hld r hr
  · rw [vp q hq, if_pos rfl]
  · rw [c2, b3 12 (by decide)]
    by_cases g : t = 0
    · subst g
      rw [up_s, vu_s, ht 0 (by omega), nI_1]
    · rw [up_n g, vo _ (by omega) (by omega)]; exact ht t ht4
  · show p2.1 k = _
    rw [c1, b1]
    rfl
  · rw [c3 k hk, b3 k hk']
end PN
