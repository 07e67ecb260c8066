/-! (B) poke, undo; what is on disk -/
section QK
variable {m b sc c t p z e h d D D1 D2 : Pic} {rs rs' : Nat → Option Q4} {st bg nd no : Nat} {X X' : Nat → Nat}
theorem RR.pk {j v : Nat} (R : RR st D1 p z X) (hj : 5 ≤ j) (hj2 : j < 165) (hv : v < 2 ^ 31) : ∃ D2, wA D1 20 1234 (nI j) (nI v) = some D2 ∧ SameX D1 D2 ∧ RR st D2 p z (va_up X j v) := by
  obtain ⟨D2, w1, s1, x1⟩ := m_w R.1 v (j := j) (by omega)
  have o : ∀ i, 165 ≤ i → va_up X j v i = X i := fun i hi => vu_n (by omega)
  obtain ⟨P1, P2, P3, P4, P5, P6⟩ := R.2.1
  refine ⟨D2, w1, s1, x1, ⟨fun r hr => by rw [o _ (by omega)]; exact P1 r hr, fun r hr h2 => ?_, fun r hr => by rw [o _ (by omega)]; exact P3 r hr, fun r hr h0 i hi => ?_, by rw [o 315 (by omega)]; exact P5, fun k hk => ?_⟩, R.2.2.1.eq (fun j h _ => o j (by omega)), R.2.2.2.eq (R.2.2.2.sml.up hv) (by rw [vu_n (by omega)]; exact R.2.2.2.li) (fun j h _ => o j (by omega)) (fun j h _ => o j (by omega)) (fun r hr => by rw [o _ (by omega)]) (fun r hr _ => o _ (by omega)) (fun r hr => ?_)⟩
  · rw [o _ (by omega)] at h2
    rw [o _ (by omega), o _ (by omega), o _ (by omega)]
    exact P2 r hr h2
  · rw [o _ (by omega)] at h0
    rw [o _ (by omega)]
    exact P4 r hr h0 i hi
  · rw [o 315 (by omega)] at hk
    rw [o _ (by omega)]
    exact P6 k hk
  · rw [o _ (by omega)]
    exact R.2.2.2.2.2.2.2.2.2 r hr
theorem q_poke (H : RLX m b sc c t p z e h rs d) (x y w : Int32) : ∃ v m' c' h' t' e' rs' d', f_X8_poke m sc c h t p z e rs x y w = some (v, m', c', h', t', e', rs') ∧ f_X9_poke d x y w = some (v, d') ∧ RLX m' b sc c' t' p z e' h' rs' d' := by
  have H := H.d0
  generalize hd : pS d 0 0 = D at H
  rcases c_da H x with ⟨e1, e2⟩ | ⟨k, st, bg, nd, no, X, hk, rfl, e1, e2, L⟩
  · exact ⟨-1, _, _, _, _, _, _, _, by unfold f_X8_poke; rw [e1, bs, if_neg (by decide)]; rfl, by unfold f_X9_poke; rw [bs, hd, e2, bs, if_pos rfl]; rfl, H.set KD.rf H.2.2.2.1 1 (by decide)⟩
  · have R := L.2.2.2.2.2.1
    have S := L.2.2.2.2.2.2.2.1
    have T := L.2.2.2.2.2.2.1
    have hnd := L.2.1.2.2.1
    rcases c_ce y with ⟨i, hi, rfl, e3, e4⟩ | ⟨e3, e4⟩
    · rcases c_in w 0 99 (by decide) (by decide) with ⟨v, i1, i2, rfl, i4⟩ | ⟨i1, i2, i3⟩
      · obtain ⟨D1, h', rs', k1, k2, k3, k4, k5, k6⟩ := L.kp
        obtain ⟨D2, a1, a2, a3⟩ := k4.pk (j := 5 + 16 * k + i) (v := v) (by omega) (by omega) (by omega)
        obtain ⟨e', w1, b1, b2, b3⟩ := wA_e (p := e) 0 (n := 160) (j := k * 16 + i) (nI v) (by omega) (by decide)
        obtain ⟨c', t', u1, u2, u3, u4, u5⟩ := x_ms1 (c := c) (t := t) (e := e') (k := k) (by omega) H.2.2.2.1
        have ec : ∀ j, j < 16 * nd → e'.2 0 j = nI (va_up X (5 + 16 * k + i) v (5 + j)) := fun j hj => by
          rw [b2]
          by_cases g : j = k * 16 + i
          · subst g
            rw [up_s, show 5 + (k * 16 + i) = 5 + 16 * k + i by omega, vu_s]
          · rw [up_n g, vu_n (by omega)]; exact S.2.2.2.1 j hj
        have S' : ST st bg nd t' p e' (va_up X (5 + 16 * k + i) v) := by
          obtain ⟨s1, s2, s3, s4, s5⟩ := S
          refine ⟨by rw [vu_n (by omega)]; exact s1, s2, s3, ec, fun k2 hk2 => ?_⟩
          rw [u5]
          by_cases g : k2 = k
          · subst g
            rw [up_s, tt_cg (c := fun j => e'.2 0 (16 * k2 + j)) (c' := dcX (va_up X (5 + 16 * k2 + i) v) k2)]
            intro j hj
            rw [ec _ (by omega)]
            unfold dcX
            rw [show 5 + (16 * k2 + j) = 5 + 16 * k2 + j by omega]
          · rw [up_n g, s5 k2 hk2, tt_cg (c := dcX X k2) (c' := dcX (va_up X (5 + 16 * k + i) v) k2)]
            intro j hj
            unfold dcX
            rw [vu_n (by omega)]
        have rd : rA D1 20 1234 (nI (5 + 16 * k + i)) = some (nI (X (5 + 16 * k + i))) := m_x k4.1 (by omega)
        refine ⟨nI (X (5 + 16 * k + i)), _, _, _, _, _, _, _, by unfold f_X8_poke; rw [e1, bs, if_pos rfl, e3, bs, if_pos rfl, if_neg (nI_pos (by omega)), if_pos (show nI v ≤ 99 from nI_le (b := 99) i2 (by decide)), k2, bs, show (16 : Int32) = nI 16 from rfl, nI_mul, nI_add, rA_c (by omega) (by decide) (S.2.2.2.1 (k * 16 + i) (by omega)), bs, w1, bs, u1, bs, show 5 + (k * 16 + i) = 5 + 16 * k + i by omega]; rfl, by unfold f_X9_poke; rw [bs, hd, e2, bs, if_neg (by decide), e4, bs, if_neg (by decide), show f_X9_in (nI v) 0 99 = some 1 from i4, bs, if_neg (by decide), k1, bs, m_da, bs, nI_add, rd, bs, bs, nI_add, a1, bs]; rfl, act_f H L k5 k6 k3 a2.fd a3 (fun q hq => by rw [vu_n (by omega)]; exact T q hq) S' u2⟩
      · refine ⟨-1, pS m 3 2, c, h, t, e, rs, _, ?_, by unfold f_X9_poke; rw [bs, hd, e2, bs, if_neg (by decide), e4, bs, if_neg (by decide), show f_X9_in w 0 99 = some 0 from i1, bs, if_pos rfl]; rfl, H.set KD.rf H.2.2.2.1 2 (by decide)⟩
        unfold f_X8_poke
        rw [e1, bs, if_pos rfl, e3, bs, if_pos rfl]
        by_cases g : w < 0
        · rw [if_pos g]; rfl
        · rw [if_neg g, if_neg]
          · rfl
          · obtain ⟨j, hj, rfl⟩ := nI_of g
            exact fun q => i3 j (by omega) (by have := (nI_leI (b := 99) hj (by decide)).mp q; omega) rfl
    · exact ⟨-1, _, _, _, _, _, _, _, by unfold f_X8_poke; rw [e1, bs, if_pos rfl, e3, bs, if_neg (by decide)]; rfl, by unfold f_X9_poke; rw [bs, hd, e2, bs, if_neg (by decide), e4, bs, if_pos rfl]; rfl, H.set KD.rf H.2.2.2.1 1 (by decide)⟩
theorem RLX.seth {h' : Pic} (H : RLX m b sc c t p z e h rs d) (L : TLX st bg nd no X m sc t p z e h rs d) (hH : HR st bg nd h' rs d) : RLX m b sc c t p z e h' rs d := by
  obtain ⟨a1, a2, a3, a4, _⟩ := H
  exact ⟨a1, a2, a3, a4, Or.inr ⟨st, bg, nd, no, X, L.1, L.2.1, L.2.2.1, L.2.2.2.1, L.2.2.2.2.1, L.2.2.2.2.2.1, L.2.2.2.2.2.2.1, L.2.2.2.2.2.2.2.1, hH⟩⟩
theorem q_undo (H : RLX m b sc c t p z e h rs d) : ∃ v m' h' t' p' z' e' d', f_X8_undo m h t p z e rs = some (v, m', h', t', p', z', e') ∧ f_X9_undo d = some (v, d') ∧ RLX m' b sc c t' p' z' e' h' rs d' := by
  have H := H.d0
  generalize hd : pS d 0 0 = D at H
  rcases H.2.2.2.2 with U | ⟨st, bg, nd, no, X, L⟩
  · exact ⟨0, _, _, _, _, _, _, _, by unfold f_X8_undo b_X8_undo_21; rw [if_pos U.1]; exact fz8 m 1 (fun y u => some (y, u, h, t, p, z, e)), by unfold f_X9_undo; rw [bs, hd, if_pos U.2.1]; rfl, H.set KD.rf H.2.2.2.1 1 (by decide)⟩
  · rcases both_tb (t := t) (p := p) (z := z) (e := e) L.2.2.2.2.2.2.2.2 L.2.1.2.2.1 with ⟨a1, h', a2, a3⟩ | ⟨a1, h', t', p', z', e', D1, X', a2, a3, a4, a5, a6, a7, a8, a9⟩
    · exact ⟨0, _, _, _, _, _, _, _, by unfold f_X8_undo b_X8_undo_21; rw [if_neg L.m0.1, a2, bs, if_pos rfl]; exact fz8 m 1 (fun y u => some (y, u, h', t, p, z, e)), by unfold f_X9_undo; rw [bs, hd, if_neg L.m0.2, if_pos a1]; rfl, (H.seth L a3).set KD.rf H.2.2.2.1 1 (by decide)⟩
    · refine ⟨1, _, _, _, _, _, _, _, by unfold f_X8_undo; rw [if_neg L.m0.1, a2, bs, if_neg (show ¬ (1 : Int32) = 0 by decide)]; exact fg8 m (fun y u => some (y, u, h', t', p', z', e')), by unfold f_X9_undo; rw [bs, hd, if_neg L.m0.2, if_neg a1, bs, a3]; rfl, act_ok H L (fun k _ h23 => a4 k h23) (fun k _ h20 _ => a5 k h20) a9 a6 a7 a8 H.2.2.2.1⟩
/-- the pages on disk: the i-th, by numbers, if there is one -/
def odN (X : Nat → Nat) : Nat → Nat → Nat → Int32 → Option Nat
  | 0, _, _, _ => none
  | k + 1, q, a, x => if X (165 + q) = 3 then (if nI a = x then some q else odN X k (q + 1) (a + 1) x) else odN X k (q + 1) a x
theorem m_od (R : RR st D p z X) (h19 : ¬ gS D 19 = 0) (x : Int32) : ∀ (k q a n : Nat), q + k = 30 → k < n → L_X9_onDisk_9 x n D (nI a) (nI q) = (match odN X k q a x with
    | some r => some (nI r, D)
    | none => some (0, pS D 0 1)) := by
  intro k
  induction k with
  | zero =>
    intro q a n h1 h2
    cases n with
    | zero => omega
    | succ n =>
      have : q = 30 := by omega
      subst this
      show b_X9_onDisk_9 x _ D (nI a) (nI 30) = _
      unfold b_X9_onDisk_9
      rw [if_neg h19, if_pos (by decide)]
      rfl
  | succ k ih =>
    intro q a n h1 h2
    cases n with
    | zero => omega
    | succ n =>
      have hs : X (165 + q) < 2 ^ 31 := R.2.2.2.sml _ (by omega)
      show b_X9_onDisk_9 x _ D (nI a) (nI q) = _
      unfold b_X9_onDisk_9 odN
      rw [if_neg h19, if_neg (show ¬ (30 : Int32) ≤ nI q from nI_ge (b := 30) (by omega) (by decide)), m_pl R.1 (by omega), bs]
      by_cases g : X (165 + q) = 3
      · rw [if_pos (by rw [g]; rfl), if_pos g]
        by_cases g2 : nI a = x
        · rw [if_pos g2, if_pos g2]
        · rw [if_neg g2, if_neg g2, nI_1, nI_1]
          exact ih (q + 1) (a + 1) n (by omega) (by omega)
      · rw [if_neg (fun w => g ((nI_e3 hs).mp w)), if_neg g, nI_1]
        exact ih (q + 1) a n (by omega) (by omega)
end QK
