/-! (B) acts -/
section QJ0
theorem fz8 {α : Type} (m : Pic) (w : Int32) (F : Int32 → Pic → Option α) : ((f_X8_refuseFlatly m w).bind fun u => (okZ u.1).bind fun y => F y u.2) = F 0 (pS m 3 w) := by
  rw [show f_X8_refuseFlatly m w = some (0, pS m 3 w) from rfl, bs, okZ0, bs]
theorem fg8 {α : Type} (m : Pic) (F : Int32 → Pic → Option α) : ((f_X8_agree m).bind fun u => (okZ u.1).bind fun y => F y u.2) = F 1 (pS m 3 0) := by
  rw [show f_X8_agree m = some (1, pS m 3 0) from rfl, bs, okZ1, bs]
theorem fz9 {α : Type} (D : Pic) (w : Int32) (F : Int32 → Pic → Option α) : ((f_X9_denied D w).bind fun u => (okZ u.1).bind fun y => F y u.2) = F 0 (pS (pS D 1 w) 2 (-1)) := by
  rw [show f_X9_denied D w = some (0, pS (pS D 1 w) 2 (-1)) from rfl, bs, okZ0, bs]
theorem fg9 {α : Type} (D : Pic) (F : Int32 → Pic → Option α) : (((f_X9_good D 0).bind fun u3 => some ((1 : Int32), u3.2)).bind fun u => (okZ u.1).bind fun y => F y u.2) = F 1 (pS (pS D 1 0) 2 (-1)) := by
  rw [show ((f_X9_good D 0).bind fun u3 => some ((1 : Int32), u3.2)) = some (1, pS (pS D 1 0) 2 (-1)) from rfl, bs, okZ1, bs]
end QJ0
section QJ
variable {m b sc c t p z e h d D D1 D2 c' t' p' z' e' h' : Pic} {rs rs' : Nat → Option Q4} {st bg nd no : Nat} {X X' : Nat → Nat}
theorem act_ok (H : RLX m b sc c t p z e h rs D) (L : TLX st bg nd no X m sc t p z e h rs D) (hk : ∀ k, k < 33 → k ≠ 23 → gS D2 k = gS D k) (ha : ∀ k, k < 33 → k ≠ 20 → k ≠ 22 → D2.2 k = D.2 k) (hH : HR st bg nd h' rs' D2) (R : RR st D2 p' z' X') (P : PT p' X') (S : ST st bg nd t' p' e' X') (hc : CIc c') : RLX (pS m 3 0) b sc c' t' p' z' e' h' rs' (pS (pS D2 1 0) 2 (-1)) := by
  obtain ⟨⟨a1, a2, a3⟩, ⟨tl, T, b1, b2, b3, b4⟩, h3, h4, h5⟩ := H
  have g : ∀ k, k ≠ 1 → k ≠ 2 → gS (pS (pS D2 1 0) 2 (-1)) k = gS D2 k := fun k h1 h2 => by rw [gS_n h2, gS_n h1]
  refine ⟨⟨by rw [gS_s, gS_n (by decide), gS_s], by rw [gS_n (by decide), g 31 (by decide) (by decide), hk 31 (by decide) (by decide)]; exact a2, by rw [gS_s, gS_s, if_neg (by decide)]⟩, ⟨tl, T, by rw [gS_n (by decide)]; exact b1, by rw [g 25 (by decide) (by decide), hk 25 (by decide) (by decide)]; exact b2, b3, b4.of (by rw [pS_a, pS_a]; exact ha 24 (by decide) (by decide) (by decide))⟩, fun j hj => by rw [pS_a, pS_a, ha 18 (by decide) (by decide) (by decide)]; exact h3 j hj, hc, Or.inr ⟨st, bg, nd, no, X', ⟨by rw [gS_n (by decide)]; exact L.1.1, by rw [g 19 (by decide) (by decide), hk 19 (by decide) (by decide)]; exact L.1.2⟩, L.2.1, ⟨by rw [g 3 (by decide) (by decide), hk 3 (by decide) (by decide)]; exact L.2.2.1.1, by rw [g 4 (by decide) (by decide), hk 4 (by decide) (by decide)]; exact L.2.2.1.2.1, by rw [g 5 (by decide) (by decide), hk 5 (by decide) (by decide)]; exact L.2.2.1.2.2.1, by rw [g 6 (by decide) (by decide), hk 6 (by decide) (by decide)]; exact L.2.2.1.2.2.2⟩, L.2.2.2.1, L.2.2.2.2.1.of (by rw [pS_a, pS_a]; exact ha 12 (by decide) (by decide) (by decide)) (by rw [pS_a, pS_a]; exact ha 13 (by decide) (by decide) (by decide)) (by rw [pS_a, pS_a]; exact ha 14 (by decide) (by decide) (by decide)), ⟨fun j hj => by rw [pS_a, pS_a]; exact R.1 j hj, R.2⟩, P, S, hH.of (g 23 (by decide) (by decide)) (by rw [pS_a, pS_a])⟩⟩
/-- both keep what is, ahead of an act -/
theorem TLX.kp (L : TLX st bg nd no X m sc t p z e h rs D) : ∃ D1 h' rs', f_X9_remembers D = some D1 ∧ f_X2_keep h rs t p z e = some (h', rs') ∧ HR st bg nd h' rs' D1 ∧ RR st D1 p z X ∧ (∀ k, k ≠ 23 → gS D1 k = gS D k) ∧ ∀ k, k ≠ 22 → D1.2 k = D.2 k := by
  have R := L.2.2.2.2.2.1
  obtain ⟨D1, h', rs', a1, a2, a3, a4, a5⟩ := both_keep R L.2.2.2.2.2.2.1 L.2.2.2.2.2.2.2.1 L.2.1.2.2.1 L.2.2.2.2.2.2.2.2
  exact ⟨D1, h', rs', a1, a2, a5, ⟨fun j hj => by rw [a4 20 (by decide)]; exact R.1 j hj, R.2⟩, a3, a4⟩
theorem act_f (H : RLX m b sc c t p z e h rs D) (L : TLX st bg nd no X m sc t p z e h rs D) (k1 : ∀ k, k ≠ 23 → gS D1 k = gS D k) (a1 : ∀ k, k ≠ 22 → D1.2 k = D.2 k) (hH : HR st bg nd h' rs' D1) (f : FD D1 D2) (R : RR st D2 p' z' X') (P : PT p' X') (S : ST st bg nd t' p' e' X') (hc : CIc c') : RLX (pS m 3 0) b sc c' t' p' z' e' h' rs' (pS (pS D2 1 0) 2 (-1)) :=
  act_ok H L (fun k hk h23 => (f.1 k hk).trans (k1 k h23)) (fun k hk h20 h22 => (f.2 k hk h20).trans (a1 k h22)) (hH.of (f.1 23 (by decide)) (f.2 22 (by decide) (by decide))) R P S hc
theorem q_store (H : RLX m b sc c t p z e h rs d) (x y : Int32) : ∃ v m' h' p' z' rs' d', f_X8_store m sc h t p z e rs x y = some (v, m', h', p', z', rs') ∧ f_X9_store d x y = some (v, d') ∧ RLX m' b sc c t p' z' e h' rs' d' := by
  have H := H.d0
  generalize hd : pS d 0 0 = D at H
  rcases c_pg H x with ⟨e1, e2⟩ | ⟨q, st, bg, nd, no, X, hq, rfl, e1, e2, L0⟩
  · exact ⟨-1, _, _, _, _, _, _, by unfold f_X8_store; rw [e1, bs, if_neg (by decide)]; rfl, by unfold f_X9_store; rw [bs, hd, e2, bs, if_pos rfl]; rfl, H.set KD.rf H.2.2.2.1 1 (by decide)⟩
  · rcases c_da H y with ⟨e3, e4⟩ | ⟨k, st, bg, nd, no, X, hk, rfl, e3, e4, L⟩
    · exact ⟨-1, _, _, _, _, _, _, by unfold f_X8_store; rw [e1, bs, if_pos rfl, e3, bs, if_neg (by decide)]; rfl, by unfold f_X9_store; rw [bs, hd, e2, bs, if_neg (by decide), e4, bs, if_pos rfl]; rfl, H.set KD.rf H.2.2.2.1 1 (by decide)⟩
    · have hnd := L.2.1.2.2.1
      have S := L.2.2.2.2.2.2.2.1
      obtain ⟨D1, h', rs', k1, k2, k3, k4, k5, k6⟩ := L.kp
      obtain ⟨v, D2, p', z', X', n, a1, a2, a3, a4, a5, a6, a7, a8, a9⟩ := both_st k4 L.2.2.2.2.2.2.1 S L.2.1.1 L.2.1.2.1 (by rw [k5 3 (by decide)]; exact L.2.2.1.1) (by rw [k5 4 (by decide)]; exact L.2.2.1.2.1) hq hk hnd
      exact ⟨v, _, _, _, _, _, _, by unfold f_X8_store; rw [e1, bs, if_pos rfl, e3, bs, if_pos rfl, k2, bs, rA_c (by omega) (by decide) (S.2.2.2.2 k hk), bs, show (16 : Int32) = nI 16 from rfl, nI_mul, a2, bs, rA_c hq (by decide) a3, bs]; rfl, by unfold f_X9_store; rw [bs, hd, e2, bs, if_neg (by decide), e4, bs, if_neg (by decide), k1, bs, a1, bs]; rfl, act_f H L k5 k6 k3 a4 a5 a6 (S.kp hnd (fun i hi => a9 i (by omega)) (a8 0 (by decide) (by decide) (by decide)) (fun j h5 hj => a8 j hj (by omega) (by omega))) H.2.2.2.1⟩
theorem q_load (H : RLX m b sc c t p z e h rs d) (x : Int32) : ∃ v m' h' p' rs' d', f_X8_load m h t p z e rs x = some (v, m', h', p', rs') ∧ f_X9_load d x = some (v, d') ∧ RLX m' b sc c t p' z e h' rs' d' := by
  have H := H.d0
  generalize hd : pS d 0 0 = D at H
  rcases c_pg H x with ⟨e1, e2⟩ | ⟨q, st, bg, nd, no, X, hq, rfl, e1, e2, L⟩
  · exact ⟨-1, _, _, _, _, _, by unfold f_X8_load; rw [e1, bs, if_neg (by decide)]; rfl, by unfold f_X9_load; rw [bs, hd, e2, bs, if_pos rfl]; rfl, H.set KD.rf H.2.2.2.1 1 (by decide)⟩
  · have R := L.2.2.2.2.2.1
    have S := L.2.2.2.2.2.2.2.1
    have hsm : X (165 + q) < 2 ^ 31 := R.2.2.2.sml _ (by omega)
    by_cases g : X (165 + q) = 0
    · have g' : nI (X (165 + q)) = 0 := by rw [g]; rfl
      exact ⟨-1, _, _, _, _, _, by unfold f_X8_load; rw [e1, bs, if_pos rfl, rA_c hq (by decide) (R.2.1.1 q hq), bs, if_pos g']; rfl, by unfold f_X9_load; rw [bs, hd, e2, bs, if_neg (by decide), m_pl R.1 hq, bs, if_pos g']; rfl, H.set KD.rf H.2.2.2.1 5 (by decide)⟩
    · have g' : ¬ nI (X (165 + q)) = 0 := fun w => g ((nI_e0 hsm).mp w)
      obtain ⟨D1, h', rs', k1, k2, k3, k4, k5, k6⟩ := L.kp
      obtain ⟨D2, p', X', a1, a2, a3, a4, a5, a6, a7, a8, a9⟩ := both_ld k4 L.2.2.2.2.2.2.1 hq
      exact ⟨nI (X' (165 + q)), _, _, _, _, _, by unfold f_X8_load; rw [e1, bs, if_pos rfl, rA_c hq (by decide) (R.2.1.1 q hq), bs, if_neg g', k2, bs, a2, bs, rA_c hq (by decide) (a4.2.1.1 q hq), bs]; rfl, by unfold f_X9_load; rw [bs, hd, e2, bs, if_neg (by decide), m_pl R.1 hq, bs, if_neg g', k1, bs, a1, bs, m_pl a4.1 hq, bs]; rfl, act_f H L k5 k6 k3 a3.fd a4 a5 (S.kp L.2.1.2.2.1 (fun i hi => a8 i (by omega)) (a7 0 (by decide) (by decide)) (fun j h5 hj => a7 j hj (by omega))) H.2.2.2.1⟩
theorem q_drop (H : RLX m b sc c t p z e h rs d) (x : Int32) : ∃ v m' h' p' z' rs' d', f_X8_drop m h t p z e rs x = some (v, m', h', p', z', rs') ∧ f_X9_drop d x = some (v, d') ∧ RLX m' b sc c t p' z' e h' rs' d' := by
  have H := H.d0
  generalize hd : pS d 0 0 = D at H
  rcases c_pg H x with ⟨e1, e2⟩ | ⟨q, st, bg, nd, no, X, hq, rfl, e1, e2, L⟩
  · exact ⟨-1, _, _, _, _, _, _, by unfold f_X8_drop; rw [e1, bs, if_neg (by decide)]; rfl, by unfold f_X9_drop; rw [bs, hd, e2, bs, if_pos rfl]; rfl, H.set KD.rf H.2.2.2.1 1 (by decide)⟩
  · have R := L.2.2.2.2.2.1
    have S := L.2.2.2.2.2.2.2.1
    have T := L.2.2.2.2.2.2.1
    have hsm : X (165 + q) < 2 ^ 31 := R.2.2.2.sml _ (by omega)
    by_cases g : X (165 + q) = 0
    · have g' : nI (X (165 + q)) = 0 := by rw [g]; rfl
      exact ⟨-1, _, _, _, _, _, _, by unfold f_X8_drop; rw [e1, bs, if_pos rfl, rA_c hq (by decide) (R.2.1.1 q hq), bs, if_pos g']; rfl, by unfold f_X9_drop; rw [bs, hd, e2, bs, if_neg (by decide), m_pl R.1 hq, bs, if_pos g']; rfl, H.set KD.rf H.2.2.2.1 5 (by decide)⟩
    · have g' : ¬ nI (X (165 + q)) = 0 := fun w => g ((nI_e0 hsm).mp w)
      obtain ⟨D1, h', rs', k1, k2, k3, k4, k5, k6⟩ := L.kp
      obtain ⟨D2, p', z', X', a1, a2, a3, a4, a5, a6, a7, a8⟩ := both_drop k4 hq
      exact ⟨nI (X (165 + q)), _, _, _, _, _, _, by unfold f_X8_drop; rw [e1, bs, if_pos rfl, rA_c hq (by decide) (R.2.1.1 q hq), bs, if_neg g', k2, bs, a2, bs]; rfl, by unfold f_X9_drop; rw [bs, hd, e2, bs, if_neg (by decide), m_pl R.1 hq, bs, if_neg g', k1, bs, m_pl k4.1 hq, bs, a1, bs]; rfl, act_f H L k5 k6 k3 a3.fd a4 (fun i hi => by rw [a8 12 (by decide), a6 _ (by omega)]; exact T i hi) (S.kp L.2.1.2.2.1 (fun i hi => a7 i (by omega)) (a6 0 (by decide)) (fun j h5 hj => a6 j hj)) H.2.2.2.1⟩
/-- a page is held, or not -/
theorem RR.hd {q v : Nat} (R : RR st D1 p z X) (hq : q < 30) (hv : v ≤ 1) (h2 : v = 1 → X (165 + q) = 2) : ∃ D2 p', wA D1 20 1234 (nI (1204 + q)) (nI v) = some D2 ∧ wA p 8 30 (nI q) (nI v) = some p' ∧ SameX D1 D2 ∧ RR st D2 p' z (va_up X (1204 + q) v) ∧ (∀ k, k ≠ 8 → p'.2 k = p.2 k) ∧ p'.1 = p.1 := by
  obtain ⟨D2, w1, s1, x1⟩ := m_w R.1 v (j := 1204 + q) (by omega)
  obtain ⟨p', w2, a2, b2, c2⟩ := wA_e (p := p) 8 (n := 30) (j := q) (nI v) hq (by decide)
  obtain ⟨P1, P2, P3, P4, P5, P6⟩ := R.2.1
  have o : ∀ j, j < 1204 → va_up X (1204 + q) v j = X j := fun j hj => vu_n (by omega)
  refine ⟨D2, p', w1, w2, s1, ⟨x1, ⟨fun r hr => ?_, fun r hr h2 => ?_, fun r hr => ?_, fun r hr h0 i hi => ?_, ?_, fun k hk => ?_⟩, R.2.2.1.eq (fun j _ h => o j h), R.2.2.2.eq (R.2.2.2.sml.up (by omega)) (by rw [o 0 (by omega)]; exact R.2.2.2.li) (fun j _ h => o j (by omega)) (fun j _ h => o j h) (fun r hr => by rw [o _ (by omega)]) (fun r hr _ => o _ (by omega)) (fun r hr => ?_)⟩, c2, a2⟩
  · rw [c2 4 (by decide), o _ (by omega)]; exact P1 r hr
  · rw [o _ (by omega)] at h2
    rw [c2 5 (by decide), c2 6 (by decide), c2 7 (by decide), o _ (by omega), o _ (by omega), o _ (by omega)]
    exact P2 r hr h2
  · rw [b2]
    by_cases g : r = q
    · subst g; rw [up_s, vu_s]
    · rw [up_n g, vu_n (by omega)]; exact P3 r hr
  · rw [o _ (by omega)] at h0
    rw [c2 9 (by decide), o _ (by omega)]
    exact P4 r hr h0 i hi
  · rw [o 315 (by omega)]
    unfold gS
    rw [a2]; exact P5
  · rw [o 315 (by omega)] at hk
    have a30 := R.2.2.2.a30
    rw [c2 10 (by decide), o _ (by omega)]
    exact P6 k hk
  · by_cases g : r = q
    · subst g; rw [vu_s]; exact ⟨hv, h2⟩
    · rw [vu_n (by omega)]
      exact R.2.2.2.2.2.2.2.2.2 r hr
theorem q_hold (H : RLX m b sc c t p z e h rs d) (x : Int32) : ∃ v m' h' p' rs' d', f_X8_hold m h t p z e rs x = some (v, m', h', p', rs') ∧ f_X9_hold d x = some (v, d') ∧ RLX m' b sc c t p' z e h' rs' d' := by
  have H := H.d0
  generalize hd : pS d 0 0 = D at H
  rcases c_pg H x with ⟨e1, e2⟩ | ⟨q, st, bg, nd, no, X, hq, rfl, e1, e2, L⟩
  · exact ⟨0, _, _, _, _, _, by unfold f_X8_hold; rw [e1, bs, if_neg (by decide)]; exact fz8 m 1 (fun y u => some (y, u, h, p, rs)), by unfold f_X9_hold; rw [bs, hd, e2, bs, if_pos rfl]; exact fz9 D 1 (fun y u => some (y, u)), H.set KD.rf H.2.2.2.1 1 (by decide)⟩
  · have R := L.2.2.2.2.2.1
    have S := L.2.2.2.2.2.2.2.1
    have T := L.2.2.2.2.2.2.1
    have hsm : X (165 + q) < 2 ^ 31 := R.2.2.2.sml _ (by omega)
    have hld := R.2.2.2.2.2.2.2.2.2 q hq
    have e8 : f_X8_hold m h t p z e rs (nI q) = if nI (X (165 + q)) = 2 then if nI (X (1204 + q)) = 0 then (f_X2_keep h rs t p z e).bind fun u6 => (wA p 8 30 (nI q) 1).bind fun p_an7 => (f_X8_agree m).bind fun u8 => (okZ u8.1).bind fun z9_ => some (z9_, u8.2, u6.1, p_an7, u6.2) else b_X8_hold_45 t z e (nI q) m h p rs else b_X8_hold_45 t z e (nI q) m h p rs := by
      unfold f_X8_hold
      rw [e1, bs, if_pos rfl, rA_c hq (by decide) (R.2.1.1 q hq), bs, rA_c hq (by decide) (R.2.1.2.2.1 q hq), bs]
    have e9 : f_X9_hold d (nI q) = if nI (X (165 + q)) = 2 then if (if nI (X (1204 + q)) = 1 then (1 : Int32) else 0) = 0 then (f_X9_turnsHeld D (nI q) 1).bind fun u7 => (okZ u7.1).bind fun z8_ => some (z8_, u7.2) else b_X9_hold_36 (nI q) D else b_X9_hold_36 (nI q) D := by
      unfold f_X9_hold f_X9_isHeld
      rw [bs, hd, e2, bs, if_neg (by decide), m_pl R.1 hq, bs, show (1204 : Int32) + nI q = nI (1204 + q) from nI_add 1204 q, m_x R.1 (by omega), bs]
      by_cases g : nI (X (1204 + q)) = 1
      · rw [if_pos g, if_pos g, bs]
      · rw [if_neg g, if_neg g, bs]
    have bad : ∃ v m' h' p' rs' d', b_X8_hold_45 t z e (nI q) m h p rs = some (v, m', h', p', rs') ∧ b_X9_hold_36 (nI q) D = some (v, d') ∧ RLX m' b sc c t p' z e h' rs' d' := ⟨0, _, _, _, _, _, fz8 m 5 (fun y u => some (y, u, h, p, rs)), fz9 D 5 (fun y u => some (y, u)), H.set KD.rf H.2.2.2.1 5 (by decide)⟩
    rw [e8, e9]
    by_cases g : X (165 + q) = 2
    · have g' : nI (X (165 + q)) = 2 := by rw [g]; rfl
      rw [if_pos g', if_pos g']
      by_cases g2 : X (1204 + q) = 1
      · rw [if_neg (show ¬ nI (X (1204 + q)) = 0 by rw [g2]; decide), if_pos (show nI (X (1204 + q)) = 1 by rw [g2]; rfl), if_neg (show ¬ (1 : Int32) = 0 by decide)]
        exact bad
      · have g3 : X (1204 + q) = 0 := by omega
        rw [if_pos (show nI (X (1204 + q)) = 0 by rw [g3]; rfl), if_neg (show ¬ nI (X (1204 + q)) = 1 by rw [g3]; decide), if_pos rfl]
        obtain ⟨D1, h', rs', k1, k2, k3, k4, k5, k6⟩ := L.kp
        obtain ⟨D2, p', a1, a2, a3, a4, a5, a6⟩ := k4.hd hq (v := 1) (by decide) (fun _ => g)
        refine ⟨1, _, _, _, _, _, by rw [k2, bs, show wA p 8 30 (nI q) 1 = _ from a2, bs]; exact fg8 m (fun y u => some (y, u, h', p', rs')), by unfold f_X9_turnsHeld; rw [k1, bs, show (1204 : Int32) + nI q = nI (1204 + q) from nI_add 1204 q, show wA D1 20 1234 (nI (1204 + q)) 1 = _ from a1, bs]; exact fg9 D2 (fun y u => some (y, u)), act_f H L k5 k6 k3 a3.fd a4 (fun i hi => by rw [a5 12 (by decide), vu_n (by omega)]; exact T i hi) (S.kp L.2.1.2.2.1 (fun i hi => by unfold gS; rw [a6]) (vu_n (by omega)) (fun j h5 hj => vu_n (by omega))) H.2.2.2.1⟩
    · have g' : ¬ nI (X (165 + q)) = 2 := fun w => g ((nI_e2 hsm).mp w)
      rw [if_neg g', if_neg g']
      exact bad
theorem q_release (H : RLX m b sc c t p z e h rs d) (x : Int32) : ∃ v m' h' p' rs' d', f_X8_release m h t p z e rs x = some (v, m', h', p', rs') ∧ f_X9_release d x = some (v, d') ∧ RLX m' b sc c t p' z e h' rs' d' := by
  have H := H.d0
  generalize hd : pS d 0 0 = D at H
  rcases c_pg H x with ⟨e1, e2⟩ | ⟨q, st, bg, nd, no, X, hq, rfl, e1, e2, L⟩
  · exact ⟨0, _, _, _, _, _, by unfold f_X8_release; rw [e1, bs, if_neg (by decide)]; exact fz8 m 1 (fun y u => some (y, u, h, p, rs)), by unfold f_X9_release; rw [bs, hd, e2, bs, if_pos rfl]; exact fz9 D 1 (fun y u => some (y, u)), H.set KD.rf H.2.2.2.1 1 (by decide)⟩
  · have R := L.2.2.2.2.2.1
    have S := L.2.2.2.2.2.2.2.1
    have T := L.2.2.2.2.2.2.1
    have hld := R.2.2.2.2.2.2.2.2.2 q hq
    have ih : f_X9_isHeld D (nI q) = some (if X (1204 + q) = 1 then 1 else 0) := by
      unfold f_X9_isHeld
      rw [show (1204 : Int32) + nI q = nI (1204 + q) from nI_add 1204 q, m_x R.1 (by omega), bs]
      by_cases g : X (1204 + q) = 1
      · rw [if_pos (by rw [g]; rfl), if_pos g]
      · rw [if_neg (fun w => g ((nI_e1 (by omega)).mp w)), if_neg g]
    by_cases g : X (1204 + q) = 1
    · rw [if_pos g] at ih
      obtain ⟨D1, h', rs', k1, k2, k3, k4, k5, k6⟩ := L.kp
      obtain ⟨D2, p', a1, a2, a3, a4, a5, a6⟩ := k4.hd hq (v := 0) (by decide) (fun w => absurd w (by decide))
      refine ⟨1, _, _, _, _, _, by unfold f_X8_release; rw [e1, bs, if_pos rfl, rA_c hq (by decide) (R.2.1.2.2.1 q hq), bs, if_neg (show ¬ nI (X (1204 + q)) = 0 by rw [g]; decide), k2, bs, show wA p 8 30 (nI q) 0 = _ from a2, bs]; exact fg8 m (fun y u => some (y, u, h', p', rs')), by unfold f_X9_release f_X9_turnsHeld; rw [bs, hd, e2, bs, if_neg (by decide), ih, bs, if_neg (by decide), k1, bs, show (1204 : Int32) + nI q = nI (1204 + q) from nI_add 1204 q, show wA D1 20 1234 (nI (1204 + q)) 0 = _ from a1, bs]; exact fg9 D2 (fun y u => some (y, u)), act_f H L k5 k6 k3 a3.fd a4 (fun i hi => by rw [a5 12 (by decide), vu_n (by omega)]; exact T i hi) (S.kp L.2.1.2.2.1 (fun i hi => by unfold gS; rw [a6]) (vu_n (by omega)) (fun j h5 hj => vu_n (by omega))) H.2.2.2.1⟩
    · rw [if_neg g] at ih
      exact ⟨0, _, _, _, _, _, by unfold f_X8_release; rw [e1, bs, if_pos rfl, rA_c hq (by decide) (R.2.1.2.2.1 q hq), bs, if_pos (show nI (X (1204 + q)) = 0 by rw [show X (1204 + q) = 0 by omega]; rfl)]; exact fz8 m 5 (fun y u => some (y, u, h, p, rs)), by unfold f_X9_release; rw [bs, hd, e2, bs, if_neg (by decide), ih, bs, if_pos rfl]; exact fz9 D 5 (fun y u => some (y, u)), H.set KD.rf H.2.2.2.1 5 (by decide)⟩
theorem q_writeBack (H : RLX m b sc c t p z e h rs d) (x : Int32) : ∃ v m' h' p' z' rs' d', f_X8_writeBack m h t p z e rs x = some (v, m', h', p', z', rs') ∧ f_X9_writeBack d x = some (v, d') ∧ RLX m' b sc c t p' z' e h' rs' d' := by
  have H := H.d0
  generalize hd : pS d 0 0 = D at H
  rcases H.2.2.2.2 with U | ⟨st, bg, nd, no, X, L⟩
  · exact ⟨-1, _, _, _, _, _, _, by unfold f_X8_writeBack; rw [if_pos U.1]; rfl, by unfold f_X9_writeBack; rw [bs, hd, if_pos U.2.1]; rfl, H.set KD.rf H.2.2.2.1 1 (by decide)⟩
  · have S := L.2.2.2.2.2.2.2.1
    rcases c_in x 1 30 (by decide) (by decide) with ⟨n, i1, i2, rfl, i4⟩ | ⟨i1, i2, i3⟩
    · obtain ⟨D1, h', rs', k1, k2, k3, k4, k5, k6⟩ := L.kp
      obtain ⟨w, D2, p', z', X', a1, a2, a3, a4, a5, a6, a7⟩ := both_wb (st := st) (n := n) (by omega) n FU FU 0 D1 p z X (by omega) (FU_ge (by omega)) (FU_ge (by omega)) k4 L.2.2.2.2.2.2.1
      exact ⟨nI w, _, _, _, _, _, _, by unfold f_X8_writeBack f_X3_writeColdest; rw [if_neg L.m0.1, if_neg (show ¬ nI n < 1 from nI_nlt (b := 1) i1 (by omega)), if_pos (show nI n ≤ 30 from nI_le (b := 30) i2 (by decide)), k2, bs, show L_X3_writeColdest_2 (nI n) FU p z 0 = _ from a2, bs]; rfl, by unfold f_X9_writeBack; rw [bs, hd, if_neg L.m0.2, show f_X9_in (nI n) 1 30 = some 1 from i4, bs, if_neg (by decide), k1, bs, show L_X9_writeBack_40 (nI n) FU D1 0 = _ from a1]; rfl, act_f H L k5 k6 k3 a3.fd a4 a5 (S.kp L.2.1.2.2.1 (fun i hi => a7 i (by omega)) (a6 0 (by decide) (by decide)) (fun j h5 hj => a6 j hj (by omega))) H.2.2.2.1⟩
    · refine ⟨-1, pS m 3 2, h, p, z, rs, _, ?_, by unfold f_X9_writeBack; rw [bs, hd, if_neg L.m0.2, show f_X9_in x 1 30 = some 0 from i1, bs, if_pos rfl]; rfl, H.set KD.rf H.2.2.2.1 2 (by decide)⟩
      unfold f_X8_writeBack
      rw [if_neg L.m0.1]
      rcases i2 with i2 | ⟨i2, i4⟩
      · rw [if_pos (show x < 1 from i2)]; rfl
      · rw [if_neg (show ¬ x < 1 from i2), if_neg]
        · rfl
        · intro q
          have i4' : (30 : Int32) < x := i4
          rw [Int32.lt_iff_toInt_lt] at i4'
          rw [Int32.le_iff_toInt_le] at q
          omega
/-- another limit -/
theorem RR.lim {n : Nat} (R : RR st D1 p z X) (hn : n ≤ 24) : ∃ D2, wA D1 20 1234 (nI 0) (nI n) = some D2 ∧ SameX D1 D2 ∧ RR st D2 p z (va_up X 0 n) := by
  obtain ⟨D2, w1, s1, x1⟩ := m_w R.1 n (j := 0) (by decide)
  have o : ∀ j, 0 < j → va_up X 0 n j = X j := fun j hj => vu_n (by omega)
  obtain ⟨P1, P2, P3, P4, P5, P6⟩ := R.2.1
  refine ⟨D2, w1, s1, x1, ⟨fun r hr => by rw [o _ (by omega)]; exact P1 r hr, fun r hr h2 => ?_, fun r hr => by rw [o _ (by omega)]; exact P3 r hr, fun r hr h0 i hi => ?_, by rw [o 315 (by omega)]; exact P5, fun k hk => ?_⟩, R.2.2.1.eq (fun j h _ => o j (by omega)), R.2.2.2.eq (R.2.2.2.sml.upt (by omega)) (by rw [vu_s]; exact hn) (fun j h _ => o j (by omega)) (fun j h _ => o j (by omega)) (fun r hr => by rw [o _ (by omega)]) (fun r hr _ => o _ (by omega)) (fun r hr => ?_)⟩
  · rw [o _ (by omega)] at h2
    rw [o _ (by omega), o _ (by omega), o _ (by omega)]
    exact P2 r hr h2
  · rw [o _ (by omega)] at h0
    rw [o _ (by omega)]
    exact P4 r hr h0 i hi
  · rw [o 315 (by omega)] at hk
    rw [o _ (by omega)]
    exact P6 k hk
  · rw [o _ (by omega)]
    exact R.2.2.2.2.2.2.2.2.2 r hr
theorem q_limit (H : RLX m b sc c t p z e h rs d) (x : Int32) : ∃ v m' h' p' z' rs' d', f_X8_limit m h t p z e rs x = some (v, m', h', p', z', rs') ∧ f_X9_limit d x = some (v, d') ∧ RLX m' b sc c t p' z' e h' rs' d' := by
  have H := H.d0
  generalize hd : pS d 0 0 = D at H
  rcases H.2.2.2.2 with U | ⟨st, bg, nd, no, X, L⟩
  · exact ⟨-1, _, _, _, _, _, _, by unfold f_X8_limit; rw [if_pos U.1]; rfl, by unfold f_X9_limit; rw [bs, hd, if_pos U.2.1]; rfl, H.set KD.rf H.2.2.2.1 1 (by decide)⟩
  · have S := L.2.2.2.2.2.2.2.1
    have T := L.2.2.2.2.2.2.1
    rcases c_lm x with ⟨n, i1, i2, rfl, e1, e2⟩ | ⟨e1, e2⟩
    · obtain ⟨D1, h', rs', k1, k2, k3, k4, k5, k6⟩ := L.kp
      obtain ⟨D2, w1, w2, w3⟩ := k4.lim i2
      obtain ⟨p1, a1, b1, c1, d1⟩ := pS_e p 0 (nI n)
      obtain ⟨p2, a2, b2, c2, d2⟩ := pS_e p1 14 0
      have R2 : RR st D2 p2 z (va_up X 0 n) := w3.of rfl (fun r _ _ => by rw [d2, d1]) (by rw [c2 11 (by decide), c1 11 (by decide)])
      have a30 := R2.2.2.2.a30
      obtain ⟨w, D3, p3, z3, X3, v1, v2, v3, v4, v5, v6, v7⟩ := both_go (st := st) (lim := n) (by omega) (nI n) (va_up X 0 n 315) FU FU 0 D2 p2 z _ rfl (by omega) (FU_ge (by omega)) (FU_ge (by omega)) R2 (by rw [vu_self (show va_up X 0 n 2 = va_up X 0 n 2 + 0 from rfl)]; intro k hk; rw [d2, d1, vu_n (by omega)]; exact T k hk) (by rw [c2 0 (by decide)]; exact b1) b2
      obtain ⟨D4, u1, u2, u3⟩ := m_w v4.1 (X3 2 + w) (j := 2) (by decide)
      have R4 : RR st D4 p3 z3 (va_up X3 2 (X3 2 + w)) := v4.tt (by decide) (by decide) u3 rfl (fun _ _ _ => rfl)
      have hx : ∀ j, 5 ≤ j → j < 165 → va_up X3 2 (X3 2 + w) j = X j := fun j h5 hj => by rw [vu_n (by omega), v6 j hj (by omega), vu_n (by omega)]
      have h0 : va_up X3 2 (X3 2 + w) 0 = n := by rw [vu_n (by decide), v6 0 (by decide) (by decide), vu_s]
      have S4 : ST st bg nd t p3 e (va_up X3 2 (X3 2 + w)) := by
        obtain ⟨s1, s2, s3, s4, s5⟩ := S
        refine ⟨by rw [h0, v7 0 (by decide), c2 0 (by decide)]; exact b1, by rw [v7 1 (by decide), c2 1 (by decide), c1 1 (by decide)]; exact s2, by rw [v7 2 (by decide), c2 2 (by decide), c1 2 (by decide)]; exact s3, fun j hj => by rw [hx _ (by omega) (by have := L.2.1.2.2.1; omega)]; exact s4 j hj, fun k hk => ?_⟩
        rw [s5 k hk, tt_cg (c := dcX (va_up X3 2 (X3 2 + w)) k) (c' := dcX X k) (fun j hj => by unfold dcX; rw [hx _ (by omega) (by have := L.2.1.2.2.1; omega)])]
      refine ⟨nI w, _, _, _, _, _, _, by unfold f_X8_limit f_X3_changeLimit; rw [if_neg L.m0.1, e1, bs, if_pos rfl, k2, bs, bs, a1, bs, a2, show L_X3_changeLimit_12 (nI n) FU p2 z 0 = _ from v2, bs]; rfl, ?_, act_f H L k5 k6 k3 ((w2.fd.tr v3.fd).tr u2.fd) R4 v5 S4 H.2.2.2.1⟩
      unfold f_X9_limit f_X9_goes
      rw [bs, hd, if_neg L.m0.2, e2, bs, if_neg (by decide), k1, bs, show wA D1 20 1234 0 (nI n) = _ from w1, bs, show L_X9_goes_2 (nI n) FU D2 0 = _ from v1, bs, show rA D3 20 1234 2 = _ from m_x v4.1 (j := 2) (by decide), bs, nI_add, show wA D3 20 1234 2 (nI (X3 2 + w)) = _ from u1, bs]
      rfl
    · exact ⟨-1, _, _, _, _, _, _, by unfold f_X8_limit; rw [if_neg L.m0.1, e1, bs, if_neg (by decide)]; rfl, by unfold f_X9_limit; rw [bs, hd, if_neg L.m0.2, e2, bs, if_pos rfl]; rfl, H.set KD.rf H.2.2.2.1 2 (by decide)⟩
theorem q_compact (H : RLX m b sc c t p z e h rs d) : ∃ v m' h' p' z' rs' d', f_X8_compact m h t p z e rs = some (v, m', h', p', z', rs') ∧ f_X9_compact d = some (v, d') ∧ RLX m' b sc c t p' z' e h' rs' d' := by
  have H := H.d0
  generalize hd : pS d 0 0 = D at H
  rcases H.2.2.2.2 with U | ⟨st, bg, nd, no, X, L⟩
  · exact ⟨-1, _, _, _, _, _, _, by unfold f_X8_compact; rw [if_pos U.1]; rfl, by unfold f_X9_compact; rw [bs, hd, if_pos U.2.1]; rfl, H.set KD.rf H.2.2.2.1 1 (by decide)⟩
  · have S := L.2.2.2.2.2.2.2.1
    obtain ⟨D1, h', rs', k1, k2, k3, k4, k5, k6⟩ := L.kp
    obtain ⟨w, D2, p', z', X', a1, a2, a3, a4, a5, a6, a7⟩ := both_cp L.2.1.1 k4 L.2.2.2.2.2.2.1 (by rw [k5 3 (by decide)]; exact L.2.2.1.1)
    exact ⟨w, _, _, _, _, _, _, by unfold f_X8_compact; rw [if_neg L.m0.1, k2, bs, a2, bs]; rfl, by unfold f_X9_compact; rw [bs, hd, if_neg L.m0.2, k1, bs, a1, bs]; rfl, act_f H L k5 k6 k3 a3.fd a4 a5 (S.kp L.2.1.2.2.1 (fun i hi => a7 i) (a6 0 (by decide) (by decide)) (fun j h5 hj => a6 j hj (by omega))) H.2.2.2.1⟩
theorem q_run (H : RLX m b sc c t p z e h rs d) (x y : Int32) : ∃ v m' h' p' z' rs' d', f_X8_run m sc h t p z e rs x y = some (v, m', h', p', z', rs') ∧ f_X9_run d x y = some (v, d') ∧ RLX m' b sc c t p' z' e h' rs' d' := by
  have H := H.d0
  generalize hd : pS d 0 0 = D at H
  rcases H.2.2.2.2 with U | ⟨st, bg, nd, no, X, L⟩
  · exact ⟨-1, _, _, _, _, _, _, by unfold f_X8_run f_X8_noOp; rw [if_pos U.1, bs, if_neg (by decide)]; rfl, by unfold f_X9_run; rw [bs, hd, if_pos U.2.1]; rfl, H.set KD.rf H.2.2.2.1 1 (by decide)⟩
  · have hno := L.2.1.2.2.2
    rcases rng x no with g | ⟨i, g, rfl, hi⟩ | ⟨i, g, hi, rfl⟩
    · exact ⟨-1, _, _, _, _, _, _, by unfold f_X8_run f_X8_noOp; rw [if_neg L.m0.1, if_pos g, bs, if_neg (by decide)]; rfl, by unfold f_X9_run; rw [bs, hd, if_neg L.m0.2, if_pos g]; rfl, H.set KD.rf H.2.2.2.1 1 (by decide)⟩
    · have e8 : f_X8_run m sc h t p z e rs (nI i) y = if y < 1 then b_X8_run_25 sc t e (nI i) y m h p z rs else if y ≤ 24 then (f_X2_keep h rs t p z e).bind fun u3 => L_X8_run_59 sc t e (nI i) y FU m u3.1 p z u3.2 (if (nI i + y) < nI no then (nI i + y) else nI no) (nI i) else b_X8_run_25 sc t e (nI i) y m h p z rs := by
        unfold f_X8_run f_X8_noOp
        rw [if_neg L.m0.1, if_neg (nI_pos hi), L.2.2.2.1.2.2.2, if_pos (nI_lt g (by omega)), bs, if_pos rfl]
      have e9 : f_X9_run d (nI i) y = (f_X9_in y 1 24).bind fun u3 => if u3 = 0 then (f_X9_refused D 2).bind fun u7 => some (u7.1, u7.2) else (f_X9_remembers D).bind fun u4 => L_X9_run_52 (nI i) y FU u4 0 := by
        unfold f_X9_run
        rw [bs, hd, if_neg L.m0.2, if_neg (nI_pos hi), L.2.2.1.2.2.2, if_pos (nI_lt g (by omega))]
      rcases c_in y 1 24 (by decide) (by decide) with ⟨n, i1, i2, rfl, i4⟩ | ⟨i1, i2, i3⟩
      · obtain ⟨D1, h', rs', k1, k2, k3, k4, k5, k6⟩ := L.kp
        obtain ⟨D2, p', z', X', w, a1, a2, a3, a4, a5, a6⟩ := both_rn (ma := m) (m := m) (sc := sc) (h := h') (rs := rs') (t := t) (e := e) L.2.1.1 L.2.1.2.1 L.2.1.2.2.1 hno L.m0.1 L.2.2.2.1.2.2.1 g i2 n 0 FU FU D1 p z X (by omega) (FU_ge (by omega)) (FU_ge (by omega)) (by omega) k4 L.2.2.2.2.2.2.1 L.2.2.2.2.2.2.2.1 (by rw [k5 3 (by decide)]; exact L.2.2.1.1) (by rw [k5 4 (by decide)]; exact L.2.2.1.2.1) (by rw [k5 6 (by decide)]; exact L.2.2.1.2.2.2) (L.2.2.2.2.1.of (k6 12 (by decide)) (k6 13 (by decide)) (k6 14 (by decide)))
        have hend : (if (nI i + nI n) < nI no then (nI i + nI n) else nI no) = nI (if i + n < no then i + n else no) := by
          rw [nI_add]
          by_cases q : i + n < no
          · rw [if_pos (nI_lt q (by omega)), if_pos q]
          · rw [if_neg (nI_nlt (by omega) (by omega)), if_neg q]
        refine ⟨nI w, _, _, _, _, _, _, by rw [e8, if_neg (show ¬ nI n < 1 from nI_nlt (b := 1) i1 (by omega)), if_pos (show nI n ≤ 24 from nI_le (b := 24) i2 (by decide)), k2, bs, hend, show L_X8_run_59 sc t e (nI i) (nI n) FU m h' p z rs' (nI (if i + n < no then i + n else no)) (nI i) = _ from a2]; rfl, by rw [e9, show f_X9_in (nI n) 1 24 = some 1 from i4, bs, if_neg (by decide), k1, bs, show L_X9_run_52 (nI i) (nI n) FU D1 0 = _ from a1]; rfl, act_f H L k5 k6 k3 a3 a4 a5 a6 H.2.2.2.1⟩
      · refine ⟨-1, pS m 3 2, h, p, z, rs, _, ?_, by rw [e9, show f_X9_in y 1 24 = some 0 from i1, bs, if_pos rfl]; rfl, H.set KD.rf H.2.2.2.1 2 (by decide)⟩
        rw [e8]
        rcases i2 with i2 | ⟨i2, i4⟩
        · rw [if_pos (show y < 1 from i2)]; rfl
        · rw [if_neg (show ¬ y < 1 from i2), if_neg]
          · rfl
          · intro q
            have i4' : (24 : Int32) < y := i4
            rw [Int32.lt_iff_toInt_lt] at i4'
            rw [Int32.le_iff_toInt_le] at q
            omega
    · exact ⟨-1, _, _, _, _, _, _, by unfold f_X8_run f_X8_noOp; rw [if_neg L.m0.1, if_neg (nI_pos hi), L.2.2.2.1.2.2.2, if_neg (nI_nlt g hi), bs, if_neg (by decide)]; rfl, by unfold f_X9_run; rw [bs, hd, if_neg L.m0.2, if_neg (nI_pos hi), L.2.2.1.2.2.2, if_neg (nI_nlt g hi)]; rfl, H.set KD.rf H.2.2.2.1 1 (by decide)⟩
end QJ
