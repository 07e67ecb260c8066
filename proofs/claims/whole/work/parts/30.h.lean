/-! (B) the pool's picture; leaving on both sides -/
def PR (p : Pic) (X : Nat → Nat) : Prop := (∀ q, q < 30 → p.2 4 q = nI (X (165 + q))) ∧ (∀ q, q < 30 → X (165 + q) = 2 → p.2 5 q = nI (X (195 + q)) ∧ p.2 6 q = nI (X (225 + q)) ∧ p.2 7 q = nI (X (255 + q))) ∧ (∀ q, q < 30 → p.2 8 q = nI (X (1204 + q))) ∧ (∀ q, q < 30 → X (165 + q) ≠ 0 → ∀ i, i < 16 → p.2 9 (q * 16 + i) = nI (X (316 + 16 * q + i))) ∧ (gS p 11 = nI (X 315) ∧ ∀ k, k < X 315 → p.2 10 k = nI (X (285 + k)))
def PT (p : Pic) (X : Nat → Nat) : Prop := ∀ t, t < 4 → p.2 12 t = nI (X (1 + t))
theorem MX.cg {d : Pic} {X Y : Nat → Nat} (h : MX d X) (e : ∀ j, j < 1234 → Y j = X j) : MX d Y := fun j hj => by rw [e j hj]; exact h j hj
theorem IX.eq {st : Nat} {X Y : Nat → Nat} (h : IX st X) (hs : Sml Y) (e0 : Y 0 ≤ 24) (e1 : ∀ j, 225 ≤ j → j < 316 → Y j = X j) (e2 : ∀ j, 796 ≤ j → j < 1204 → Y j = X j) (e3 : ∀ p, p < 30 → (Y (165 + p) = 2 ↔ X (165 + p) = 2)) (e4 : ∀ p, p < 30 → X (165 + p) = 2 → Y (195 + p) = X (195 + p)) (e5 : ∀ p, p < 30 → Y (1204 + p) ≤ 1 ∧ (Y (1204 + p) = 1 → X (165 + p) = 2)) : IX st Y := by
  have ec : ∀ q, q < 24 → clX Y q = clX X q := fun q hq => e2 _ (by omega) (by omega)
  have es : ∀ q k, q < 24 → k < 16 → slX Y q k = slX X q k := fun q k hq hk => e2 _ (by omega) (by omega)
  have ef : ∀ q, q < 24 → filX Y q = filX X q := fun q hq => fil_eq hq e2
  have en : Y 315 = X 315 := e1 _ (by omega) (by omega)
  have h30 := h.a30
  have ea : ∀ k, k < X 315 → Y (285 + k) = X (285 + k) := fun k hk => e1 _ (by omega) (by omega)
  refine ⟨⟨hs, fun q hq => by rw [ec q hq, ef q hq]; exact h.zw q hq, e0, by rw [frs_eq e2]; exact h.fr⟩, ⟨?_, ?_⟩, ⟨fun k hk => ?_, fun k l hk hl e => ?_, fun q hq hq2 => ?_⟩, fun q hq hq2 => ?_, fun q k hq hk hne => ?_, fun q hq hne => ?_, fun q hq => ?_⟩
  · rw [en, h.nag]
    unfold cntP
    refine sm_congr 30 0 (fun q _ hq => ?_)
    by_cases g : X (165 + q) = 2
    · rw [if_pos g, if_pos ((e3 q (by omega)).mpr g)]
    · rw [if_neg g, if_neg (fun t => g ((e3 q (by omega)).mp t))]
  · rw [en, ← h.tot]
    exact sm_congr 24 0 (fun q _ hq => ef q (by omega))
  · rw [en] at hk
    rw [ea k hk]
    have := h.age.1 k hk
    exact ⟨this.1, (e3 _ this.1).mpr this.2⟩
  · rw [en] at hk hl
    rw [ea k hk, ea l hl] at e
    exact h.age.2.1 k l hk hl e
  · obtain ⟨k, k1, k2⟩ := h.age.2.2 q hq ((e3 q hq).mp hq2)
    exact ⟨k, by rw [en]; exact k1, by rw [ea k k1]; exact k2⟩
  · have hx := (e3 q hq).mp hq2
    obtain ⟨t1, t2, t3, t4, t5, t6⟩ := h.pag q hq hx
    have := sl16 _ (h.zw _ t1).1
    rw [e1 _ (by omega) (by omega), e1 (255 + q) (by omega) (by omega), e4 q hq hx, ec _ t1, es _ _ t1 (by omega)]
    exact ⟨t1, t2, t3, t4, t5, t6⟩
  · rw [es q k hq hk] at hne ⊢
    obtain ⟨q', q1, q2, q3, q4, q5⟩ := h.slt q k hq hk hne
    exact ⟨q', q1, q2, (e3 _ q1).mpr q3, by rw [e1 _ (by omega) (by omega)]; exact q4, by rw [e1 _ (by omega) (by omega)]; exact q5⟩
  · rw [ec q hq] at hne
    rw [ef q hq]
    exact h.clz q hq hne
  · exact ⟨(e5 q hq).1, fun t => (e3 q hq).mpr ((e5 q hq).2 t)⟩
section LB
variable {d p z : Pic} {X : Nat → Nat} {st q : Nat}
theorem both_lv (h : MX d X) (hp : PR p X) (hz : ZR z X) (hI : IX st X) (hq : q < 30) (hq2 : X (165 + q) = 2) : ∃ f d1 d2 p' z', f < X 315 ∧ X (285 + f) = q ∧ f_X9_leaves d (nI q) = some d1 ∧ f_X9_forgets d1 (nI q) = some d2 ∧ SameX d d2 ∧ MX d2 (fgX (lvX X (X (225 + q)) (X (255 + q))) f) ∧ f_X3_leavePool p z (nI q) = some (p', z') ∧ ZR z' (lvX X (X (225 + q)) (X (255 + q))) ∧ (∀ k, k ≠ 11 → gS p' k = gS p k) ∧ (∀ k, k ≠ 10 → k ≠ 8 → p'.2 k = p.2 k) ∧ p'.2 8 = upd (p.2 8) q 0 ∧ gS p' 11 = nI (X 315 - 1) ∧ ∀ k, k < X 315 - 1 → p'.2 10 k = nI (X (285 + sh f k)) := by
  obtain ⟨t1, t2, t3, t4, t5, t6⟩ := hI.pag q hq hq2
  have h16 := sl16 _ (hI.zw _ t1).1
  have h30 := hI.a30
  obtain ⟨d1, w1, s1, x1⟩ := m_lv h hI.sml hq rfl rfl t1 (by omega)
  have e315 : lvX X (X (225 + q)) (X (255 + q)) 315 = X 315 := lv_o (by omega) (by omega)
  have eag : ∀ k, k < 30 → lvX X (X (225 + q)) (X (255 + q)) (285 + k) = X (285 + k) := fun k hk => lv_o (by omega) (by omega)
  obtain ⟨k0, k1, k2⟩ := hI.age.2.2 q hq hq2
  cases ef : agI (lvX X (X (225 + q)) (X (255 + q))) q with
  | none =>
    have := fnd_none ef k0 (by omega) (by rw [e315]; omega)
    rw [eag k0 (by omega), k2] at this
    simp at this
  | some f =>
    obtain ⟨-, f1, f2⟩ := fnd_some ef
    rw [e315] at f1
    have f2 : X (285 + f) = q := by
      rw [eag f (by omega)] at f2
      simpa using f2
    obtain ⟨d2, w2, s2, x2⟩ := m_fg x1 hI.sml.lv (by rw [e315]; exact h30) (by omega) ef
    obtain ⟨p1, v1, b1, b2, b3, b4⟩ := p_age (a := fun k => X (285 + k)) hp.2.2.2.2.1 h30 hp.2.2.2.2.2 (fun k hk => (hI.age.1 k hk).1) (by omega : f < X 315) f2 (fun k hk e => hI.age.2.1 k f hk (by omega) (e.trans f2.symm))
    obtain ⟨z', v2, c2⟩ := z_out hz hI.zw t1 t2 (by omega)
    obtain ⟨p2, v3, a3, a4, a5⟩ := wA_e (p := p1) 8 (n := 30) 0 hq (by decide)
    refine ⟨f, d1, d2, p2, z', by omega, f2, w1, w2, s1.tr s2, x2, ?_, c2, fun k hk => ?_, fun k hk hk' => ?_, ?_, ?_, fun k hk => ?_⟩
    · unfold f_X3_leavePool
      rw [v1, bs, rA_n hq (by decide), bs, b3 6 (by decide), (hp.2.1 q hq hq2).2.1, rA_n hq (by decide), bs, b3 7 (by decide), (hp.2.1 q hq hq2).2.2, v2, bs, v3]
      rfl
    · show p2.1 k = _
      rw [a3]
      exact b2 k hk
    · rw [a5 k hk', b3 k hk]
    · rw [a4, b3 8 (by decide)]
    · show p2.1 11 = _
      rw [a3]
      exact b1
    · rw [a5 10 (by decide)]
      exact b4 k hk
/-- the pool's picture behind it -/
theorem PR.lv {f v : Nat} {p' : Pic} (hp : PR p X) (hI : IX st X) (hq : q < 30) (hq2 : X (165 + q) = 2) (hv : v ≠ 2) (hc : v = 0 ∨ v = 3) (hf : f < X 315) (h4 : p'.2 4 = upd (p.2 4) q (nI v)) (h5 : p'.2 5 = p.2 5) (h6 : p'.2 6 = p.2 6) (h7 : p'.2 7 = p.2 7) (h8 : p'.2 8 = upd (p.2 8) q 0) (h9 : p'.2 9 = p.2 9) (h11 : gS p' 11 = nI (X 315 - 1)) (h10 : ∀ k, k < X 315 - 1 → p'.2 10 k = nI (X (285 + sh f k))) : PR p' (lX X q (X (225 + q)) (X (255 + q)) f v) := by
  obtain ⟨t1, t2, t3, t4, t5, t6⟩ := hI.pag q hq hq2
  have h16 := sl16 _ (hI.zw _ t1).1
  have h30 := hI.a30
  have hi16 : X (255 + q) < 16 := by omega
  have hf30 : f < 30 := by omega
  refine ⟨fun k hk => ?_, fun k hk hk2 => ?_, fun k hk => ?_, fun k hk hk0 i hi => ?_, ?_, fun k hk => ?_⟩
  · rw [h4, lX_p hq t1 hi16 hf30 h30 hk]
    by_cases e : k = q
    · subst e; rw [up_s, if_pos rfl]
    · rw [up_n e, if_neg e]; exact hp.1 k hk
  · rw [lX_p hq t1 hi16 hf30 h30 hk] at hk2
    by_cases e : k = q
    · rw [if_pos e] at hk2; exact absurd hk2 hv
    · rw [if_neg e] at hk2
      rw [lX_o hq t1 hi16 hf30 h30 (by omega), lX_o hq t1 hi16 hf30 h30 (by omega), lX_o hq t1 hi16 hf30 h30 (by omega), h5, h6, h7]
      exact hp.2.1 k hk hk2
  · rw [h8, lX_h hq t1 hi16 hf30 h30 hk]
    by_cases e : k = q
    · subst e; rw [up_s, if_pos rfl]; rfl
    · rw [up_n e, if_neg e]; exact hp.2.2.1 k hk
  · rw [lX_p hq t1 hi16 hf30 h30 hk] at hk0
    rw [h9, lX_o hq t1 hi16 hf30 h30 (by omega)]
    refine hp.2.2.2.1 k hk ?_ i hi
    by_cases e : k = q
    · subst e; omega
    · rw [if_neg e] at hk0; exact hk0
  · rw [lX_n hq t1 hi16]; exact h11
  · rw [lX_n hq t1 hi16] at hk
    rw [lX_a hq t1 hi16 h30 hk]
    exact h10 k hk
theorem lX_zr {f v : Nat} (hz : ZR z (lvX X (X (225 + q)) (X (255 + q)))) (hI : IX st X) (hq : q < 30) (hq2 : X (165 + q) = 2) (hf : f < X 315) : ZR z (lX X q (X (225 + q)) (X (255 + q)) f v) := by
  obtain ⟨t1, t2, t3, t4, t5, t6⟩ := hI.pag q hq hq2
  have h16 := sl16 _ (hI.zw _ t1).1
  have h30 := hI.a30
  exact hz.eq (fun j a b => lX_z hq t1 (by omega) (by omega) h30 a b)
end LB
