/-! (B) what is kept for undoing -/
def QR (st bg nd : Nat) (q : Q4) (Y : Nat → Nat) : Prop := PR q.2.1 Y ∧ ZR q.2.2.1 Y ∧ IX st Y ∧ PT q.2.1 Y ∧ ST st bg nd q.1 q.2.1 q.2.2.2 Y
def HR (st bg nd : Nat) (h : Pic) (rs : Nat → Option Q4) (d : Pic) : Prop := ∃ na en, (gS h 2 = nI na ∧ gS d 23 = nI na ∧ na ≤ 10) ∧ (gS h 1 = nI en ∧ en ≤ 10) ∧ ∀ i, i < na → ∃ q Y, rs ((en + 10 - na + i) % 10) = some q ∧ QR st bg nd q Y ∧ ∀ j, j < 1234 → d.2 22 (1234 * i + j) = nI (Y j)
theorem HR.of {st bg nd : Nat} {h d d' : Pic} {rs : Nat → Option Q4} (hh : HR st bg nd h rs d) (h1 : gS d' 23 = gS d 23) (h2 : d'.2 22 = d.2 22) : HR st bg nd h rs d' := by
  obtain ⟨na, en, ⟨a1, a2, a3⟩, a4, a5⟩ := hh
  exact ⟨na, en, ⟨a1, h1.trans a2, a3⟩, a4, fun i hi => by
    obtain ⟨q, Y, b1, b2, b3⟩ := a5 i hi
    exact ⟨q, Y, b1, b2, fun j hj => by rw [h2]; exact b3 j hj⟩⟩
section HI
variable {d h t p z e : Pic} {X : Nat → Nat} {st bg nd na : Nat} {rs : Nat → Option Q4}
theorem m_r52 (hx : MX d X) (ha : gS d 23 = nI na) (hn : na ≤ 9) : ∃ d', L_X9_remembers_52 FU d 0 = some d' ∧ gS d' 23 = nI (na + 1) ∧ (∀ k, k ≠ 23 → gS d' k = gS d k) ∧ (∀ r, r ≠ 22 → d'.2 r = d.2 r) ∧ ∀ i, d'.2 22 i = if 1234 * na ≤ i ∧ i < 1234 * na + 1234 then nI (X (i - 1234 * na)) else d.2 22 i := by
  obtain ⟨D, e, a, b, c⟩ := loop_cp (d := d) (L := L_X9_remembers_52) (k0 := 20) (k1 := 22) (N := 1234) (o0 := 0) (o1 := 1234 * na) (fun D => some (pS D 23 (gS D 23 + 1))) (by decide) (fun n D => by
    show b_X9_remembers_52 _ D (nI 1234) = _
    unfold b_X9_remembers_52
    rw [if_pos (by decide), bs]) (fun n D j hj hD => by
    obtain ⟨D1, w1, a1, b1, c1⟩ := wA_e (p := D) 22 (n := 12340) (j := 1234 * na + j) (D.2 20 j) (by omega) (by decide)
    refine ⟨D1, ?_, a1, by rw [Nat.zero_add]; exact b1, c1⟩
    have g23 : gS D 23 = nI na := by unfold gS; rw [hD]; exact ha
    show b_X9_remembers_52 _ D (nI j) = _
    unfold b_X9_remembers_52
    rw [if_neg (show ¬ (1234 : Int32) ≤ nI j from nI_ge (b := 1234) hj (by decide)), rA_n hj (by decide), bs, g23, show (1234 : Int32) = nI 1234 from rfl, nI_mul, nI_add, w1, bs, nI_1]) 1234 0 FU d (by omega) (FU_ge (by omega)) rfl (fun _ _ => rfl) (fun i => by rw [if_neg (by omega)])
  obtain ⟨D2, w2, a2, b2, c2⟩ := pS_e D 23 (gS D 23 + 1)
  have g23 : gS D 23 = nI na := by unfold gS; rw [a]; exact ha
  refine ⟨D2, e.trans (by rw [w2]), by rw [a2, g23, nI_1], fun k hk => ?_, fun r hr => ?_, fun i => ?_⟩
  · rw [b2 k hk]; unfold gS; rw [a]
  · rw [c2]; exact b r hr
  · rw [c2, c i]
    by_cases g : 1234 * na ≤ i ∧ i < 1234 * na + 1234
    · rw [if_pos g, if_pos g, Nat.zero_add]; exact hx _ (by omega)
    · rw [if_neg g, if_neg g]
theorem m_r11 : ∃ D, L_X9_remembers_11 FU d 0 = L_X9_remembers_52 FU (pS D 23 (gS D 23 - 1)) 0 ∧ D.1 = d.1 ∧ (∀ r, r ≠ 22 → D.2 r = d.2 r) ∧ ∀ i, D.2 22 i = if i < 11106 then d.2 22 (i + 1234) else d.2 22 i := by
  have key : ∀ (k j n : Nat) (D : Pic), j + k = 11106 → k < n → D.1 = d.1 → (∀ r, r ≠ 22 → D.2 r = d.2 r) → (∀ i, D.2 22 i = if i < j then d.2 22 (i + 1234) else d.2 22 i) → ∃ D', L_X9_remembers_11 n D (nI j) = L_X9_remembers_52 FU (pS D' 23 (gS D' 23 - 1)) 0 ∧ D'.1 = d.1 ∧ (∀ r, r ≠ 22 → D'.2 r = d.2 r) ∧ ∀ i, D'.2 22 i = if i < 11106 then d.2 22 (i + 1234) else d.2 22 i := by
    intro k
    induction k with
    | zero =>
      intro j n D hj hn h1 h2 h3
      cases n with
      | zero => omega
      | succ n =>
        have : j = 11106 := by omega
        subst this
        refine ⟨D, ?_, h1, h2, h3⟩
        show b_X9_remembers_11 _ D (nI 11106) = _
        unfold b_X9_remembers_11
        rw [if_pos (by decide), bs]
    | succ k ih =>
      intro j n D hj hn h1 h2 h3
      cases n with
      | zero => omega
      | succ n =>
        obtain ⟨D1, w1, a1, b1, c1⟩ := wA_e (p := D) 22 (n := 12340) (j := j) (D.2 22 (j + 1234)) (by omega) (by decide)
        have e1 : L_X9_remembers_11 (n + 1) D (nI j) = L_X9_remembers_11 n D1 (nI (j + 1)) := by
          show b_X9_remembers_11 _ D (nI j) = _
          unfold b_X9_remembers_11
          rw [if_neg (show ¬ (11106 : Int32) ≤ nI j from nI_ge (b := 11106) (by omega) (by decide)), show (1234 : Int32) = nI 1234 from rfl, nI_add, rA_n (by omega) (by decide), bs, w1, bs, nI_1]
        rw [e1]
        refine ih (j + 1) n D1 (by omega) (by omega) (a1.trans h1) (fun r hr => (c1 r hr).trans (h2 r hr)) (fun i => ?_)
        rw [b1]
        by_cases g : i = j
        · subst g
          rw [up_s, h3, if_neg (by omega), if_pos (by omega)]
        · rw [up_n g, h3 i]
          by_cases g2 : i < j
          · rw [if_pos g2, if_pos (by omega)]
          · rw [if_neg g2, if_neg (by omega)]
  exact key 11106 0 FU d (by omega) (FU_ge (by omega)) rfl (fun _ _ => rfl) (fun i => by rw [if_neg (by omega)])
theorem m_rem (hx : MX d X) (ha : gS d 23 = nI na) (hn : na ≤ 10) : ∃ d', f_X9_remembers d = some d' ∧ gS d' 23 = nI (if na = 10 then 10 else na + 1) ∧ (∀ k, k ≠ 23 → gS d' k = gS d k) ∧ (∀ r, r ≠ 22 → d'.2 r = d.2 r) ∧ ∀ i j, i < 10 → j < 1234 → d'.2 22 (1234 * i + j) = if i = (if na = 10 then 9 else na) then nI (X j) else d.2 22 (1234 * (if na = 10 then i + 1 else i) + j) := by
  unfold f_X9_remembers
  by_cases h10 : na = 10
  · subst h10
    rw [if_pos (by rw [ha]; rfl)]
    obtain ⟨D, e, a, b, c⟩ := m_r11 (d := d)
    obtain ⟨D2, w2, a2, b2, c2⟩ := pS_e D 23 (gS D 23 - 1)
    have g23 : gS D 23 = nI 10 := by unfold gS; rw [a]; exact ha
    have g2 : gS D2 23 = nI 9 := by rw [a2, g23]; rfl
    have hx2 : MX D2 X := fun j hj => by rw [c2, b 20 (by decide)]; exact hx j hj
    obtain ⟨D3, e3, a3, b3, c3, f3⟩ := m_r52 hx2 g2 (Nat.le_refl _)
    rw [e, w2, e3]
    refine ⟨D3, rfl, a3, fun k hk => ?_, fun r hr => ?_, fun i j hi hj => ?_⟩
    · rw [b3 k hk, b2 k hk]; unfold gS; rw [a]
    · rw [c3 r hr, c2, b r hr]
    · rw [f3, if_pos rfl]
      by_cases g : i = 9
      · subst g
        rw [if_pos ⟨by omega, by omega⟩, if_pos rfl]
        exact congrArg (fun t => nI (X t)) (by omega)
      · rw [if_neg (by omega), if_neg g, c2, c, if_pos (by omega), if_pos rfl]
        exact congrArg (d.2 22) (by omega)
  · rw [if_neg (show ¬ gS d 23 = 10 from fun w => h10 ((nI_eq (b := 10) (by omega) (by decide)).mp (ha ▸ w)))]
    obtain ⟨D3, e3, a3, b3, c3, f3⟩ := m_r52 hx ha (by omega)
    refine ⟨D3, e3, by rw [if_neg h10]; exact a3, b3, c3, fun i j hi hj => ?_⟩
    rw [f3, if_neg h10, if_neg h10]
    by_cases g : i = na
    · subst g
      rw [if_pos ⟨by omega, by omega⟩, if_pos rfl]
      exact congrArg (fun t => nI (X t)) (by omega)
    · rw [if_neg (by omega), if_neg g]
theorem both_keep (hR : RR st d p z X) (hT : PT p X) (hS : ST st bg nd t p e X) (hn : nd ≤ 10) (hH : HR st bg nd h rs d) : ∃ d' h' rs', f_X9_remembers d = some d' ∧ f_X2_keep h rs t p z e = some (h', rs') ∧ (∀ k, k ≠ 23 → gS d' k = gS d k) ∧ (∀ r, r ≠ 22 → d'.2 r = d.2 r) ∧ HR st bg nd h' rs' d' := by
  obtain ⟨na, en, ⟨a1, a2, a3⟩, ⟨a4, a5⟩, a6⟩ := hH
  obtain ⟨d1, w1, b1, b2, b3, b4⟩ := m_rem hR.1 a2 a3
  obtain ⟨h1, he1, g1, g2⟩ : ∃ h1, (if gS h 1 < 10 then h else pS h 1 0) = h1 ∧ gS h1 1 = nI (if en < 10 then en else 0) ∧ gS h1 2 = nI na := by
    by_cases g : en < 10
    · refine ⟨h, if_pos (by rw [a4]; exact nI_lt (b := 10) g (by decide)), by rw [if_pos g]; exact a4, a1⟩
    · refine ⟨pS h 1 0, if_neg (by rw [a4]; exact nI_nlt (b := 10) (by omega) (by omega)), by rw [if_neg g, gS_s]; rfl, by rw [gS_n (by decide)]; exact a1⟩
  have hen : (if en < 10 then en else 0) < 10 ∧ ((if en < 10 then en else 0) = en ∨ (en = 10 ∧ (if en < 10 then en else 0) = 0)) := by
    by_cases g : en < 10
    · rw [if_pos g]; exact ⟨g, Or.inl rfl⟩
    · rw [if_neg g]; exact ⟨by omega, Or.inr ⟨by omega, rfl⟩⟩
  generalize (if en < 10 then en else 0) = en' at g1 hen
  obtain ⟨t', p', z', e', c1, c2, c3, c4, c5⟩ := s_copy t ((rs en').getD Q0).1 p ((rs en').getD Q0).2.1 z ((rs en').getD Q0).2.2.1 e ((rs en').getD Q0).2.2.2
  obtain ⟨h2, w2, e1, e2, e3⟩ := pS_e h1 1 (gS h1 1 + 1)
  have g3 : gS h2 2 = nI na := by rw [e2 2 (by decide)]; exact g2
  have g4 : (if gS h2 2 + 1 < 10 then gS h2 2 + 1 else 10) = nI (if na = 10 then 10 else na + 1) := by
    rw [g3, nI_1]
    by_cases g : na + 1 < 10
    · rw [if_pos (show nI (na + 1) < 10 from nI_lt (b := 10) g (by decide)), if_neg (by omega)]
    · rw [if_neg (show ¬ nI (na + 1) < 10 from nI_nlt (b := 10) (by omega) (by omega))]
      by_cases g' : na = 10
      · rw [if_pos g']; rfl
      · rw [if_neg g', show na + 1 = 10 by omega]; rfl
  refine ⟨d1, pS h2 2 (nI (if na = 10 then 10 else na + 1)), va_up rs en' (some (t', p', z', e')), w1, ?_, b2, b3, (if na = 10 then 10 else na + 1), en' + 1, ⟨gS_s, b1, by split <;> omega⟩, ⟨by rw [gS_n (by decide), e1, g1, nI_1], by omega⟩, fun i hi => ?_⟩
  · unfold f_X2_keep cpQ
    rw [bs, he1, g1, nI_clamp (by omega), if_neg (by
      rintro (w | w)
      · exact nI_pos (by omega) w
      · omega), c1, bs, bs, bs, ← g1, w2, g4]
  · have hq : QR st bg nd (t', p', z', e') X := ⟨hR.2.1.cg c3 hR.2.2.2.a30, hR.2.2.1.cg c4, hR.2.2.2, hT.cg c3, hS.cg hn c2 c3 c5⟩
    have hnew : ∀ i, i = (if na = 10 then 9 else na) → (en' + 1 + 10 - (if na = 10 then 10 else na + 1) + i) % 10 = en' := by
      intro i hi
      by_cases g : na = 10
      · rw [if_pos g] at hi ⊢; omega
      · rw [if_neg g] at hi ⊢; omega
    by_cases g : i = (if na = 10 then 9 else na)
    · rw [hnew i g, vu_s]
      refine ⟨_, X, rfl, hq, fun j hj => ?_⟩
      rw [b4 i j (by split at hi <;> omega) hj, if_pos g]
    · have hi' : (if na = 10 then i + 1 else i) < na := by
        by_cases g' : na = 10
        · rw [if_pos g'] at hi g ⊢; omega
        · rw [if_neg g'] at hi g ⊢; omega
      obtain ⟨q, Y, y1, y2, y3⟩ := a6 _ hi'
      have hpos : (en' + 1 + 10 - (if na = 10 then 10 else na + 1) + i) % 10 = (en + 10 - na + (if na = 10 then i + 1 else i)) % 10 ∧ (en' + 1 + 10 - (if na = 10 then 10 else na + 1) + i) % 10 ≠ en' := by
        by_cases g' : na = 10
        · rw [if_pos g'] at hi g hi' ⊢; rw [if_pos g']; omega
        · rw [if_neg g'] at hi g hi' ⊢; rw [if_neg g']; omega
      rw [vu_n hpos.2, hpos.1]
      refine ⟨q, Y, y1, y2, fun j hj => ?_⟩
      rw [b4 i j (by split at hi <;> omega) hj, if_neg g]
      exact y3 j hj
/-- undoing -/
theorem both_tb (hH : HR st bg nd h rs d) (hn : nd ≤ 10) : (gS d 23 = 0 ∧ ∃ h', f_X2_takeBack h t p z e rs = some (0, h', t, p, z, e) ∧ HR st bg nd h' rs d) ∨ (¬ gS d 23 = 0 ∧ ∃ h' t' p' z' e' d' X', f_X2_takeBack h t p z e rs = some (1, h', t', p', z', e') ∧ L_X9_undo_39 FU (pS d 23 (gS d 23 - 1)) 0 = (f_X9_good d' 0).bind (fun u4 => some (1, u4.2)) ∧ (∀ k, k ≠ 23 → gS d' k = gS d k) ∧ (∀ r, r ≠ 20 → d'.2 r = d.2 r) ∧ RR st d' p' z' X' ∧ PT p' X' ∧ ST st bg nd t' p' e' X' ∧ HR st bg nd h' rs d') := by
  obtain ⟨na, en, ⟨a1, a2, a3⟩, ⟨a4, a5⟩, a6⟩ := hH
  obtain ⟨h1, he1, g1, g2⟩ : ∃ h1, (if 0 < gS h 1 then h else pS h 1 10) = h1 ∧ gS h1 1 = nI (if 0 < en then en else 10) ∧ gS h1 2 = nI na := by
    by_cases g : 0 < en
    · refine ⟨h, if_pos (by rw [a4]; exact nI_lt (a := 0) g (by omega)), by rw [if_pos g]; exact a4, a1⟩
    · refine ⟨pS h 1 10, if_neg (by rw [a4]; exact nI_nlt (a := 0) (by omega) (by omega)), by rw [if_neg g, gS_s]; rfl, by rw [gS_n (by decide)]; exact a1⟩
  have hen : 0 < (if 0 < en then en else 10) ∧ (if 0 < en then en else 10) ≤ 10 ∧ ((if 0 < en then en else 10) = en ∨ (en = 0 ∧ (if 0 < en then en else 10) = 10)) := by
    by_cases g : 0 < en
    · rw [if_pos g]; exact ⟨g, a5, Or.inl rfl⟩
    · rw [if_neg g]; exact ⟨by omega, by omega, Or.inr ⟨by omega, rfl⟩⟩
  generalize (if 0 < en then en else 10) = en' at g1 hen
  have e9 : gS h1 1 - 1 = nI (en' - 1) := by rw [g1, show (1 : Int32) = nI 1 from rfl, nI_sub (by omega)]
  have hx : f_X2_takeBack h t p z e rs = if nI na ≤ 0 then some ((0 : Int32), h1, t, p, z, e) else match rs (en' - 1) with
    | none => some (0, h1, t, p, z, e)
    | some q => (cpQ q.1 q.2.1 q.2.2.1 q.2.2.2 (t, p, z, e)).bind fun n => (some (pS h1 1 (nI (en' - 1)))).bind fun h2 => some (1, pS h2 2 (gS h2 2 - 1), n.1, n.2.1, n.2.2.1, n.2.2.2) := by
    unfold f_X2_takeBack
    rw [bs, he1, e9, nI_clamp (by omega), if_neg (by
      rintro (w | w)
      · exact nI_pos (by omega) w
      · omega), g2]
    rfl
  have hp : ∀ i, i < na → (en + 10 - na + i) % 10 = (en' + 10 - na + i) % 10 := fun i hi => by omega
  by_cases h0 : na = 0
  · left
    subst h0
    refine ⟨a2, h1, by rw [hx, if_pos (by decide)], 0, en', ⟨g2, a2, a3⟩, ⟨g1, hen.2.1⟩, fun i hi => by omega⟩
  · right
    refine ⟨fun w => h0 ((nI_e0 (by omega)).mp (a2 ▸ w)), ?_⟩
    obtain ⟨q, Y, y1, y2, y3⟩ := a6 (na - 1) (by omega)
    rw [show (en + 10 - na + (na - 1)) % 10 = en' - 1 by omega] at y1
    obtain ⟨t', p', z', e', c1, c2, c3, c4, c5⟩ := s_copy q.1 t q.2.1 p q.2.2.1 z q.2.2.2 e
    obtain ⟨h2, w2, e1, e2, e3⟩ := pS_e h1 1 (nI (en' - 1))
    obtain ⟨d1, v1, f1, f2, f3⟩ := pS_e d 23 (gS d 23 - 1)
    have g23 : gS d1 23 = nI (na - 1) := by rw [f1, a2, show (1 : Int32) = nI 1 from rfl, nI_sub (by omega)]
    obtain ⟨D, l1, l2, l3, l4⟩ : ∃ D, L_X9_undo_39 FU d1 0 = (f_X9_good D 0).bind (fun u4 => some (1, u4.2)) ∧ D.1 = d1.1 ∧ (∀ r, r ≠ 20 → D.2 r = d1.2 r) ∧ ∀ i, i < 1234 → D.2 20 i = d1.2 22 (1234 * (na - 1) + i) := by
      have key : ∀ (k j n : Nat) (D : Pic), j + k = 1234 → k < n → D.1 = d1.1 → (∀ r, r ≠ 20 → D.2 r = d1.2 r) → (∀ i, i < j → D.2 20 i = d1.2 22 (1234 * (na - 1) + i)) → ∃ D', L_X9_undo_39 n D (nI j) = (f_X9_good D' 0).bind (fun u4 => some (1, u4.2)) ∧ D'.1 = d1.1 ∧ (∀ r, r ≠ 20 → D'.2 r = d1.2 r) ∧ ∀ i, i < 1234 → D'.2 20 i = d1.2 22 (1234 * (na - 1) + i) := by
        intro k
        induction k with
        | zero =>
          intro j n D hj hn h1 h2 h3
          cases n with
          | zero => omega
          | succ n =>
            have : j = 1234 := by omega
            subst this
            refine ⟨D, ?_, h1, h2, h3⟩
            show b_X9_undo_39 _ D (nI 1234) = _
            unfold b_X9_undo_39
            rw [if_pos (by decide)]
        | succ k ih =>
          intro j n D hj hn h1 h2 h3
          cases n with
          | zero => omega
          | succ n =>
            obtain ⟨D1, w1, a1, b1, c1⟩ := wA_e (p := D) 20 (n := 1234) (j := j) (D.2 22 (1234 * (na - 1) + j)) (by omega) (by decide)
            have gD : gS D 23 = nI (na - 1) := by unfold gS; rw [h1]; exact g23
            have e1 : L_X9_undo_39 (n + 1) D (nI j) = L_X9_undo_39 n D1 (nI (j + 1)) := by
              show b_X9_undo_39 _ D (nI j) = _
              unfold b_X9_undo_39
              rw [if_neg (show ¬ (1234 : Int32) ≤ nI j from nI_ge (b := 1234) (by omega) (by decide)), gD, show (1234 : Int32) = nI 1234 from rfl, nI_mul, nI_add, rA_n (by omega) (by decide), bs, w1, bs, nI_1]
            rw [e1]
            refine ih (j + 1) n D1 (by omega) (by omega) (a1.trans h1) (fun r hr => (c1 r hr).trans (h2 r hr)) (fun i hi => ?_)
            rw [b1]
            by_cases g : i = j
            · subst g
              rw [up_s, h2 22 (by decide)]
            · rw [up_n g]; exact h3 i (by omega)
      exact key 1234 0 FU d1 (by omega) (FU_ge (by omega)) rfl (fun _ _ => rfl) (fun i hi => by omega)
    have gD : ∀ k, gS D k = gS d1 k := fun k => by unfold gS; rw [l2]
    obtain ⟨y4, y5, y6, y7, y8⟩ := y2
    refine ⟨pS h2 2 (gS h2 2 - 1), t', p', z', e', D, Y, ?_, by rw [v1]; exact l1, fun k hk => by rw [gD, f2 k hk], fun r hr => by rw [l3 r hr, f3], ⟨fun j hj => ?_, y4.cg c3 y6.a30, y5.cg c4, y6⟩, y7.cg c3, y8.cg hn c2 c3 c5, na - 1, en' - 1, ⟨?_, by rw [gD]; exact g23, by omega⟩, ⟨by rw [gS_n (by decide), e1], by omega⟩, fun i hi => ?_⟩
    · rw [hx, if_neg (nI_nle (by omega) (by omega)), y1]
      dsimp only
      unfold cpQ
      dsimp only
      rw [c1, bs, bs, bs, w2]
    · rw [l4 j hj, f3]; exact y3 j hj
    · rw [gS_s, e2 2 (by decide), g2, show (1 : Int32) = nI 1 from rfl, nI_sub (by omega)]
    · obtain ⟨q', Y', u1, u2, u3⟩ := a6 i (by omega)
      refine ⟨q', Y', ?_, u2, fun j hj => by rw [l3 22 (by decide), f3]; exact u3 j hj⟩
      rw [← u1]
      exact congrArg rs (by omega)
end HI
