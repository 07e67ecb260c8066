/-! (B) in thought -/
section QI
variable {m b sc c t p z e h d D D' pt zt : Pic} {rs : Nat → Option Q4} {st bg nd no : Nat} {X : Nat → Nat}
theorem fin3 {F8 : Option (Int32 × Pic × Pic × Pic)} {F9 : Option (Int32 × Pic)} {pt' zt' : Pic} (H : RLX m b sc c t p z e h rs D) (k : KD D D') (v : Int32) (e8 : F8 = some (v, pS m 3 0, pt', zt')) (e9 : F9 = some (v, pS (pS D' 1 0) 2 (-1))) : ∃ v m' pt' zt' d', F8 = some (v, m', pt', zt') ∧ F9 = some (v, d') ∧ RLX m' b sc c t p z e h rs d' := ⟨v, _, _, _, _, e8, e9, H.set k H.2.2.2.1 0 (by decide)⟩
theorem fin3r {F8 : Option (Int32 × Pic × Pic × Pic)} {F9 : Option (Int32 × Pic)} {pt' zt' : Pic} (H : RLX m b sc c t p z e h rs D) (k : KD D D') (w : Int32) (hw : ¬ w = 4) (e8 : F8 = some (-1, pS m 3 w, pt', zt')) (e9 : F9 = some (-1, pS (pS D' 1 w) 2 (-1))) : ∃ v m' pt' zt' d', F8 = some (v, m', pt', zt') ∧ F9 = some (v, d') ∧ RLX m' b sc c t p z e h rs d' := ⟨-1, _, _, _, _, e8, e9, H.set k H.2.2.2.1 w hw⟩
/-- what stays while a thought is thought -/
def KT (X : Nat → Nat) (D D' : Pic) : Prop := (∀ k, k < 33 → gS D' k = gS D k) ∧ (∀ k, k < 33 → k ≠ 20 → k ≠ 21 → D'.2 k = D.2 k) ∧ ∀ j, j < 1234 → D'.2 21 j = nI (X j)
theorem KT.s {D D1 D2 : Pic} (h : KT X D D1) (s : SameX D1 D2) : KT X D D2 := ⟨fun k hk => (s.g k).trans (h.1 k hk), fun k a b c => (s.2 k b).trans (h.2.1 k a b c), fun j hj => by rw [s.2 21 (by decide)]; exact h.2.2 j hj⟩
theorem KT.f {D D1 D2 : Pic} (h : KT X D D1) (s : FD D1 D2) : KT X D D2 := ⟨fun k hk => (s.1 k hk).trans (h.1 k hk), fun k a b c => (s.2 k a b).trans (h.2.1 k a b c), fun j hj => by rw [s.2 21 (by decide) (by decide)]; exact h.2.2 j hj⟩
theorem TLX.th (L : TLX st bg nd no X m sc t p z e h rs D) (pt zt : Pic) : ∃ D1 p1 z1, f_X9_keepsAside D = some D1 ∧ f_X3_copyFrom p pt z zt = some (p1, z1) ∧ KT X D D1 ∧ RR st D1 p1 z1 X ∧ PT p1 X ∧ ST st bg nd t p1 e X ∧ gS p1 14 = nI 0 ∧ D1.1 = D.1 := by
  have R := L.2.2.2.2.2.1
  obtain ⟨D1, w1, a1, b1, c1⟩ := m_ka R.1
  obtain ⟨p1, z1, w2, q1, q2, q3⟩ := p_copy p pt z zt
  exact ⟨D1, p1, z1, w1, w2, ⟨fun k _ => by unfold gS; rw [a1], fun k _ _ h21 => b1 k h21, c1⟩, ⟨fun j hj => by rw [b1 20 (by decide)]; exact R.1 j hj, (R.cy q1 q2).2⟩, L.2.2.2.2.2.2.1.cg q1, L.2.2.2.2.2.2.2.1.cg L.2.1.2.2.1 (fun _ _ => rfl) q1 (fun _ _ => rfl), q3, a1⟩
theorem TLX.bk {D2 : Pic} (L : TLX st bg nd no X m sc t p z e h rs D) (k : KT X D D2) : ∃ D3, f_X9_bringsBack D2 = some D3 ∧ KD D D3 ∧ SameX D2 D3 := by
  have R := L.2.2.2.2.2.1
  obtain ⟨D3, w, s, x⟩ := m_bb k.2.2
  exact ⟨D3, w, ⟨fun i _ hi => (s.g i).trans (k.1 i hi), fun i a b c => (s.2 i b).trans (k.2.1 i a b c), fun j hj => by rw [x j hj, R.1 j hj]⟩, s⟩
theorem q_gain (H : RLX m b sc c t p z e h rs d) : ∃ v m' pt' zt' d', f_X8_gain m t p pt z zt = some (v, m', pt', zt') ∧ f_X9_gain d = some (v, d') ∧ RLX m' b sc c t p z e h rs d' := by
  have H := H.d0
  generalize hd : pS d 0 0 = D at H
  rcases H.2.2.2.2 with U | ⟨st, bg, nd, no, X, L⟩
  · exact fin3r H KD.rf 1 (by decide) (by unfold f_X8_gain; rw [if_pos U.1]; rfl) (by unfold f_X9_gain; rw [bs, hd, if_pos U.2.1]; rfl)
  · obtain ⟨D1, p1, z1, w1, w2, w3, w4, w5, w6, w7, w8⟩ := L.th pt zt
    obtain ⟨w, D2, p2, z2, X2, v1, v2, v3, v4, v5, v6, v7⟩ := both_cp L.2.1.1 w4 w5 (by rw [w3.1 3 (by decide)]; exact L.2.2.1.1)
    obtain ⟨D3, u1, u2, u3⟩ := L.bk (w3.s v3)
    exact fin3 H u2 w (by unfold f_X8_gain; rw [if_neg L.m0.1, w2, bs, v2, bs]; rfl) (by unfold f_X9_gain; rw [bs, hd, if_neg L.m0.2, w1, bs, v1, bs, u1, bs]; rfl)
/-- the pool in thought, compacted or not -/
theorem TLX.tp (L : TLX st bg nd no X m sc t p z e h rs D) (pt zt : Pic) (y : Int32) : ∃ D1 D2 p2 z2 X2, f_X9_keepsAside D = some D1 ∧ (if y = 0 then some D1 else (f_X9_compacts D1).bind fun u => some u.2) = some D2 ∧ f_X8_thinkOfPool m t p pt z zt y = some (p2, z2) ∧ KT X D D2 ∧ RR st D2 p2 z2 X2 ∧ PT p2 X2 := by
  obtain ⟨D1, p1, z1, w1, w2, w3, w4, w5, w6, w7, w8⟩ := L.th pt zt
  by_cases g : y = 0
  · refine ⟨D1, D1, p1, z1, X, w1, by rw [if_pos g], ?_, w3, w4, w5⟩
    unfold f_X8_thinkOfPool
    rw [w2, bs, if_pos g]
  · obtain ⟨w, D2, p2, z2, X2, v1, v2, v3, v4, v5, v6, v7⟩ := both_cp L.2.1.1 w4 w5 (by rw [w3.1 3 (by decide)]; exact L.2.2.1.1)
    refine ⟨D1, D2, p2, z2, X2, w1, by rw [if_neg g, v1, bs], ?_, w3.s v3, v4, v5⟩
    unfold f_X8_thinkOfPool
    rw [w2, bs, if_neg g, v2, bs]
theorem q_would (H : RLX m b sc c t p z e h rs d) (x y : Int32) : ∃ v m' pt' zt' d', f_X8_would m t p pt z zt x y = some (v, m', pt', zt') ∧ f_X9_would d x y = some (v, d') ∧ RLX m' b sc c t p z e h rs d' := by
  have H := H.d0
  generalize hd : pS d 0 0 = D at H
  rcases H.2.2.2.2 with U | ⟨st, bg, nd, no, X, L⟩
  · exact fin3r H KD.rf 1 (by decide) (by unfold f_X8_would; rw [if_pos U.1]; rfl) (by unfold f_X9_would; rw [bs, hd, if_pos U.2.1]; rfl)
  · rcases c_lm x with ⟨i, i1, i2, rfl, e1, e2⟩ | ⟨e1, e2⟩
    · obtain ⟨D1, D2, p2, z2, X2, w1, w2, w3, w4, w5, w6⟩ := L.tp pt zt y
      obtain ⟨p3, a1, b1, c1, d1⟩ := pS_e p2 0 (nI i)
      obtain ⟨p4, a2, b2, c2, d2⟩ := pS_e p3 14 0
      have R4 : RR st D2 p4 z2 X2 := w5.of rfl (fun r _ _ => by rw [d2, d1]) (by rw [c2 11 (by decide), c1 11 (by decide)])
      have a30 := R4.2.2.2.a30
      obtain ⟨w, D3, p5, z5, X5, v1, v2, v3, v4, v5, v6, v7⟩ := both_go (st := st) (lim := i) (by omega) (nI i) (X2 315) FU FU 0 D2 p4 z2 X2 rfl (by omega) (FU_ge (by omega)) (FU_ge (by omega)) R4 (by rw [vu_self (show X2 2 = X2 2 + 0 from rfl)]; intro k hk; rw [d2, d1]; exact w6 k hk) (by rw [c2 0 (by decide)]; exact b1) b2
      obtain ⟨D4, u1, u2, u3⟩ := L.bk (w4.s v3)
      have e47 : b_X9_would_47 (nI i) y D2 = some (nI w, pS (pS D4 1 0) 2 (-1)) := by
        unfold b_X9_would_47 f_X9_goes
        rw [show L_X9_goes_2 (nI i) FU D2 0 = _ from v1, bs, u1, bs]; rfl
      refine fin3 H u2 (nI w) (by unfold f_X8_would f_X3_changeLimit; rw [if_neg L.m0.1, e1, bs, if_pos rfl, w3, bs, bs, a1, bs, a2, show L_X3_changeLimit_12 (nI i) FU p4 z2 0 = _ from v2, bs]; rfl) ?_
      unfold f_X9_would
      rw [bs, hd, if_neg L.m0.2, e2, bs, if_neg (by decide), w1, bs]
      by_cases g : y = 0
      · rw [if_pos g] at w2
        rw [if_pos g, Option.some.inj w2, e47]
      · rw [if_neg g] at w2
        rw [if_neg g]
        cases hc : f_X9_compacts D1 with
        | none => rw [hc] at w2; cases w2
        | some u =>
          rw [hc, bs] at w2
          rw [bs, Option.some.inj w2, e47]
    · exact fin3r H KD.rf 2 (by decide) (by unfold f_X8_would; rw [if_neg L.m0.1, e1, bs, if_neg (by decide)]; rfl) (by unfold f_X9_would; rw [bs, hd, if_neg L.m0.2, e2, bs, if_pos rfl]; rfl)
theorem q_holds (H : RLX m b sc c t p z e h rs d) (y : Int32) : ∃ v m' pt' zt' d', f_X8_holds m t p pt z zt y = some (v, m', pt', zt') ∧ f_X9_holds d y = some (v, d') ∧ RLX m' b sc c t p z e h rs d' := by
  have H := H.d0
  generalize hd : pS d 0 0 = D at H
  rcases H.2.2.2.2 with U | ⟨st, bg, nd, no, X, L⟩
  · exact fin3r H KD.rf 1 (by decide) (by unfold f_X8_holds; rw [if_pos U.1]; rfl) (by unfold f_X9_holds; rw [bs, hd, if_pos U.2.1]; rfl)
  · obtain ⟨D1, D2, p2, z2, X2, w1, w2, w3, w4, w5, w6⟩ := L.tp pt zt y
    obtain ⟨D3, u1, u2, u3⟩ := L.bk w4
    have f24 := w5.2.2.2.fr
    have e9 : f_X9_holds d y = b_X9_holds_31 y D2 := by
      unfold f_X9_holds
      rw [bs, hd, if_neg L.m0.2, w1, bs]
      by_cases g : y = 0
      · rw [if_pos g] at w2
        rw [if_pos g, Option.some.inj w2]
      · rw [if_neg g] at w2
        rw [if_neg g]
        cases hc : f_X9_compacts D1 with
        | none => rw [hc] at w2; cases w2
        | some u =>
          rw [hc, bs] at w2
          rw [bs, Option.some.inj w2]
    have e8 : f_X8_holds m t p pt z zt y = if 0 ≤ oI (cfX X2) then (f_X8_answer m (if 1 < nI (frsX X2) then nI (frsX X2) else 1)).bind fun u4 => some (u4.1, u4.2, p2, z2) else (f_X8_answer m 1).bind fun u5 => some (u5.1, u5.2, p2, z2) := by
      unfold f_X8_holds
      rw [if_neg L.m0.1, w3, bs, p_cf w5.2.1 w5.2.2.2, bs, z_f0 w5]
    have e9' : f_X9_holds d y = if oI (cfX X2) = -1 then b_X9_holds_49 y D2 (nI (frsX X2)) 1 else b_X9_holds_49 y D2 (nI (frsX X2)) 0 := by
      rw [e9]
      unfold b_X9_holds_31
      rw [m_fnow w5.1 w5.2.2.2.zw, bs, m_cf w5.1 w5.2.2.2, bs]
    cases hc : cfX X2 with
    | none =>
      rw [hc] at e8 e9'
      rw [if_neg (show ¬ (0 : Int32) ≤ oI none by decide)] at e8
      rw [if_pos (show oI none = -1 from rfl)] at e9'
      refine fin3 H u2 1 (by rw [e8]; rfl) ?_
      rw [e9']
      unfold b_X9_holds_49
      rw [u1, bs]
      by_cases g : nI (frsX X2) = 0
      · rw [if_pos g]; rfl
      · rw [if_neg g]; rfl
    | some q =>
      have hq := (cf_some w5.2.2.2 hc).1
      rw [hc] at e8 e9'
      rw [if_pos (show (0 : Int32) ≤ oI (some q) from nI_pos' (by omega))] at e8
      rw [if_neg (show ¬ oI (some q) = -1 from nI_m1 (by omega))] at e9'
      by_cases g : 1 < frsX X2
      · rw [if_pos (show (1 : Int32) < nI (frsX X2) from nI_lt (a := 1) g (by omega))] at e8
        refine fin3 H u2 (nI (frsX X2)) (by rw [e8]; rfl) ?_
        rw [e9']
        unfold b_X9_holds_49
        rw [u1, bs, if_neg (nI_ne0 (by omega) (by omega)), if_pos rfl]; rfl
      · rw [if_neg (show ¬ (1 : Int32) < nI (frsX X2) from nI_nlt (a := 1) (by omega) (by decide))] at e8
        refine fin3 H u2 1 (by rw [e8]; rfl) ?_
        rw [e9']
        unfold b_X9_holds_49
        rw [u1, bs]
        by_cases g0 : frsX X2 = 0
        · rw [if_pos (by rw [g0]; rfl)]; rfl
        · rw [if_neg (nI_ne0 (by omega) (by omega)), if_pos rfl, show frsX X2 = 1 by omega]; rfl
theorem p_w1 (R : RR st D pt zt X) : (cfX X = none ∧ f_X3_writeColdest pt zt 1 = some (0, pt, zt)) ∨ (∃ q, cfX X = some q ∧ ∀ p' z', f_X3_writeOut pt zt (nI q) = some (p', z') → f_X3_writeColdest pt zt 1 = some (1, p', z')) := by
  have l1 : f_X3_writeColdest pt zt 1 = b_X3_writeColdest_2 1 (L_X3_writeColdest_2 1 11999) pt zt 0 := rfl
  cases hc : cfX X with
  | none =>
    left
    refine ⟨rfl, ?_⟩
    rw [l1]
    unfold b_X3_writeColdest_2
    rw [if_neg (by decide), p_cf R.2.1 R.2.2.2, hc, bs, if_neg (by decide)]
  | some q =>
    right
    have hq := (cf_some R.2.2.2 hc).1
    refine ⟨q, rfl, fun p' z' hw => ?_⟩
    rw [l1]
    unfold b_X3_writeColdest_2
    rw [if_neg (by decide), p_cf R.2.1 R.2.2.2, hc, bs, if_pos (show (0 : Int32) ≤ oI (some q) from nI_pos' (by omega)), show f_X3_writeOut pt zt (oI (some q)) = _ from hw, bs]
    show b_X3_writeColdest_2 1 (L_X3_writeColdest_2 1 11998) p' z' (0 + 1) = _
    unfold b_X3_writeColdest_2
    rw [if_pos (by decide)]
theorem both_fe {F : Nat} (L : TLX st bg nd no X m sc t p z e h rs D) (hF : gS z 0 = nI F) (hF24 : F ≤ 24) : ∀ (r v n1 n2 : Nat) (D1 pt zt : Pic) (Y : Nat → Nat), Y 315 = r → v + r ≤ 30 → r < n1 → r < n2 → RR st D1 pt zt Y → frsX Y = F → KT X D D1 → ∃ w pt' zt' D', L_X8_freeing_29 t p z n1 m pt zt (nI (v + 1)) = ((f_X8_answer m w).bind fun u => some (u.1, u.2, pt', zt')) ∧ L_X9_freeing_29 n2 D1 (nI F) (nI v) = ((f_X9_good D' w).bind fun u => some (u.1, u.2)) ∧ KD D D' := by
  intro r
  induction r with
  | zero =>
    intro v n1 n2 D1 pt zt Y h1 h2 h3 h4 R hf k
    cases n1 with
    | zero => omega
    | succ n1 =>
      cases n2 with
      | zero => omega
      | succ n2 =>
        obtain ⟨D3, u1, u2, u3⟩ := L.bk k
        have hc : cfX Y = none := by
          cases hc : cfX Y with
          | none => rfl
          | some q =>
            have := cf_some R.2.2.2 hc
            obtain ⟨k, hk, _⟩ := R.2.2.2.2.2.1.2.2 q this.1 this.2.1
            omega
        have pw : f_X3_writeColdest pt zt 1 = some (0, pt, zt) := by
          rcases p_w1 R with ⟨_, q⟩ | ⟨q, q1, _⟩
          · exact q
          · rw [hc] at q1; cases q1
        refine ⟨-2, pt, zt, D3, ?_, ?_, u2⟩
        · show b_X8_freeing_29 t p z _ m pt zt (nI (v + 1)) = _
          unfold b_X8_freeing_29
          by_cases g : (30 : Int32) < nI (v + 1)
          · rw [if_pos g]
          · rw [if_neg g, pw, bs, if_pos rfl]
        · show b_X9_freeing_29 _ D1 (nI F) (nI v) = _
          unfold b_X9_freeing_29 b_X9_freeing_56 b_X9_freeing_69 b_X9_freeing_85
          rw [m_fnow R.1 R.2.2.2.zw, bs, hf, if_pos rfl, m_cf R.1 R.2.2.2, hc, bs, if_pos (show oI none = -1 from rfl), bs, if_pos (nI_le (Nat.le_refl _) (by omega)), u1, bs, if_pos rfl]
  | succ r ih =>
    intro v n1 n2 D1 pt zt Y h1 h2 h3 h4 R hf k
    cases n1 with
    | zero => omega
    | succ n1 =>
      cases n2 with
      | zero => omega
      | succ n2 =>
        have e8 : L_X8_freeing_29 t p z (n1 + 1) m pt zt (nI (v + 1)) = (f_X3_writeColdest pt zt 1).bind fun u3 => if u3.1 = 0 then (f_X8_answer m (-2)).bind fun u5 => some (u5.1, u5.2, u3.2.1, u3.2.2) else if (gS z 0) ≤ (gS u3.2.2 0) then L_X8_freeing_29 t p z n1 m u3.2.1 u3.2.2 (nI (v + 1) + 1) else (f_X8_answer m (nI (v + 1))).bind fun u4 => some (u4.1, u4.2, u3.2.1, u3.2.2) := by
          show b_X8_freeing_29 t p z _ m pt zt (nI (v + 1)) = _
          unfold b_X8_freeing_29
          rw [if_neg (show ¬ (30 : Int32) < nI (v + 1) from nI_nlt (a := 30) (by omega) (by decide))]
        have e9 : L_X9_freeing_29 (n2 + 1) D1 (nI F) (nI v) = if oI (cfX Y) = -1 then b_X9_freeing_56 D1 (nI F) (nI v) else (f_X9_writesColdest D1).bind fun u9 => L_X9_freeing_29 n2 u9.2 (nI F) (nI v + 1) := by
          show b_X9_freeing_29 _ D1 (nI F) (nI v) = _
          unfold b_X9_freeing_29
          rw [m_fnow R.1 R.2.2.2.zw, bs, hf, if_pos rfl, m_cf R.1 R.2.2.2, bs]
        rcases p_w1 R with ⟨hc, pw⟩ | ⟨q, hc, pw⟩
        · obtain ⟨D3, u1, u2, u3⟩ := L.bk k
          refine ⟨-2, pt, zt, D3, ?_, ?_, u2⟩
          · rw [e8, pw, bs, if_pos rfl]
          · rw [e9, hc, if_pos (show oI none = -1 from rfl)]
            unfold b_X9_freeing_56 b_X9_freeing_69 b_X9_freeing_85
            rw [m_fnow R.1 R.2.2.2.zw, bs, hf, if_pos (nI_le (Nat.le_refl _) (by omega)), u1, bs, if_pos rfl]
        · have hq := (cf_some R.2.2.2 hc).1
          obtain ⟨D2, p2, z2, Y2, v1, v2, v3, v4, v5, v6, v7⟩ := both_wc R hc
          have pw2 := pw p2 z2 v2
          have k2 := k.s v3
          have hle : frsX Y2 ≤ F := by rw [← hf]; exact v5.2.2.2.2.2.1
          rw [e8, e9, pw2, bs, if_neg (show ¬ (1 : Int32) = 0 by decide), hc, if_neg (show ¬ oI (some q) = -1 from nI_m1 (by omega)), v1, bs, hF, z_f0 v4]
          by_cases g : F ≤ frsX Y2
          · rw [if_pos (nI_le g (by omega)), nI_1, nI_1]
            exact ih (v + 1) n1 n2 D2 p2 z2 Y2 (by have := v5.1; omega) (by omega) (by omega) (by omega) v4 (by omega) k2
          · obtain ⟨D3, u1, u2, u3⟩ := L.bk k2
            rw [if_neg (nI_ge (by omega) (by omega))]
            refine ⟨nI (v + 1), p2, z2, D3, rfl, ?_, u2⟩
            cases n2 with
            | zero => omega
            | succ n2 =>
              show b_X9_freeing_29 _ D2 (nI F) (nI v + 1) = _
              unfold b_X9_freeing_29 b_X9_freeing_56 b_X9_freeing_69 b_X9_freeing_85
              rw [m_fnow v4.1 v4.2.2.2.zw, bs, if_neg (fun w => g (by have := (nI_eq (by omega) (by omega)).mp w; omega)), bs, if_neg (nI_ge (by omega) (by omega)), u1, bs, if_neg (by decide), nI_1]
theorem q_freeing (H : RLX m b sc c t p z e h rs d) : ∃ v m' pt' zt' d', f_X8_freeing m t p pt z zt = some (v, m', pt', zt') ∧ f_X9_freeing d = some (v, d') ∧ RLX m' b sc c t p z e h rs d' := by
  have H := H.d0
  generalize hd : pS d 0 0 = D at H
  rcases H.2.2.2.2 with U | ⟨st, bg, nd, no, X, L⟩
  · exact fin3r H KD.rf 1 (by decide) (by unfold f_X8_freeing; rw [if_pos U.1]; rfl) (by unfold f_X9_freeing; rw [bs, hd, if_pos U.2.1]; rfl)
  · obtain ⟨D1, p1, z1, w1, w2, w3, w4, w5, w6, w7, w8⟩ := L.th pt zt
    have a30 := w4.2.2.2.a30
    obtain ⟨w, pt', zt', D', v1, v2, v3⟩ := both_fe L (F := frsX X) (z_f0 L.2.2.2.2.2.1) w4.2.2.2.fr (X 315) 0 FU FU D1 p1 z1 X rfl (by omega) (FU_ge (by omega)) (FU_ge (by omega)) w4 rfl w3
    exact fin3 H v3 w (by unfold f_X8_freeing; rw [if_neg L.m0.1, w2, bs, show L_X8_freeing_29 t p z FU m p1 z1 1 = _ from v1]; rfl) (by unfold f_X9_freeing; rw [bs, hd, if_neg L.m0.2, w1, bs, m_fnow w4.1 w4.2.2.2.zw, bs, show L_X9_freeing_29 FU D1 (nI (frsX X)) 0 = _ from v2]; rfl)
theorem TLX.ps (L : TLX st bg nd no X m sc t p z e h rs D) (pt zt : Pic) {q k : Nat} (hq : q < 30) (hk : k < nd) (e2 : f_X9_isPage D (nI q) = some 1) (e4 : f_X9_isData D (nI k) = some 1) : ∃ p2 z2 D3 n, f_X8_thinkOfStoring m t p pt z zt e (nI q) (nI k) = some (p2, z2) ∧ f_X9_layPushes D (nI q) (nI k) = some (1, D3) ∧ KD D D3 ∧ gS p2 14 = nI n ∧ gS D3 43 = nI n ∧ n ≤ 30 ∧ ∀ j, j < n → D3.2 42 j = p2.2 13 j := by
  have hnd := L.2.1.2.2.1
  obtain ⟨D1, p1, z1, w1, w2, w3, w4, w5, w6, w7, w8⟩ := L.th pt zt
  obtain ⟨v, D2, p2, z2, X2, n, a1, a2, a3, a4, a5, a6, a7, a8, a9⟩ := both_st w4 w5 w6 L.2.1.1 L.2.1.2.1 (by rw [w3.1 3 (by decide)]; exact L.2.2.1.1) (by rw [w3.1 4 (by decide)]; exact L.2.2.1.2.1) hq hk hnd
  obtain ⟨D3, u1, u2, u3⟩ := L.bk (w3.f a4)
  refine ⟨p2, z2, D3, n, ?_, ?_, u2, a7.2.1, by rw [u3.g]; exact a7.1, a7.2.2.1, fun j hj => by rw [u3.2 42 (by decide)]; exact a7.2.2.2 j hj⟩
  · unfold f_X8_thinkOfStoring
    rw [w2, bs, rA_c (by omega) (by decide) (L.2.2.2.2.2.2.2.1.2.2.2.2 k hk), bs, show (16 : Int32) = nI 16 from rfl, nI_mul, a2, bs]
  · unfold f_X9_layPushes
    rw [e2, bs, if_neg (by decide), e4, bs, if_neg (by decide), w1, bs, a1, bs, u1, bs]
theorem q_pushes (H : RLX m b sc c t p z e h rs d) (x y : Int32) : ∃ v m' pt' zt' d', f_X8_pushes m sc t p pt z zt e x y = some (v, m', pt', zt') ∧ f_X9_pushes d x y = some (v, d') ∧ RLX m' b sc c t p z e h rs d' := by
  have H := H.d0
  generalize hd : pS d 0 0 = D at H
  have i10 : ¬ (1 : Int32) = 0 := by decide
  rcases c_pg H x with ⟨e1, e2⟩ | ⟨q, st, bg, nd, no, X, hq, rfl, e1, e2, L0⟩
  · exact fin3r H KD.rf 1 (by decide) (by unfold f_X8_pushes; rw [e1, bs, if_neg (by decide)]; rfl) (by unfold f_X9_pushes f_X9_layPushes; rw [bs, hd, e2, bs, if_pos rfl, bs, if_pos rfl]; rfl)
  · rcases c_da H y with ⟨e3, e4⟩ | ⟨k, st, bg, nd, no, X, hk, rfl, e3, e4, L⟩
    · exact fin3r H KD.rf 1 (by decide) (by unfold f_X8_pushes; rw [e1, bs, if_pos rfl, e3, bs, if_neg (by decide)]; rfl) (by unfold f_X9_pushes f_X9_layPushes; rw [bs, hd, e2, bs, if_neg i10, e4, bs, if_pos rfl, bs, if_pos rfl]; rfl)
    · obtain ⟨p2, z2, D3, n, u1, u2, u3, u4, u5, u6, u7⟩ := L.ps pt zt hq hk e2 e4
      exact fin3 H u3 (nI n) (by unfold f_X8_pushes; rw [e1, bs, if_pos rfl, e3, bs, if_pos rfl, u1, bs, u4]; rfl) (by unfold f_X9_pushes; rw [bs, hd, u2, bs, if_neg i10, u5]; rfl)
theorem q_pushed (H : RLX m b sc c t p z e h rs d) (x y w : Int32) : ∃ v m' pt' zt' d', f_X8_pushed m sc t p pt z zt e x y w = some (v, m', pt', zt') ∧ f_X9_pushed d x y w = some (v, d') ∧ RLX m' b sc c t p z e h rs d' := by
  have H := H.d0
  generalize hd : pS d 0 0 = D at H
  have i10 : ¬ (1 : Int32) = 0 := by decide
  rcases c_pg H x with ⟨e1, e2⟩ | ⟨q, st, bg, nd, no, X, hq, rfl, e1, e2, L0⟩
  · exact fin3r H KD.rf 1 (by decide) (by unfold f_X8_pushed; rw [e1, bs, if_neg (by decide)]; rfl) (by unfold f_X9_pushed f_X9_layPushes; rw [bs, hd, e2, bs, if_pos rfl, bs, if_pos rfl]; rfl)
  · rcases c_da H y with ⟨e3, e4⟩ | ⟨k, st, bg, nd, no, X, hk, rfl, e3, e4, L⟩
    · exact fin3r H KD.rf 1 (by decide) (by unfold f_X8_pushed; rw [e1, bs, if_pos rfl, e3, bs, if_neg (by decide)]; rfl) (by unfold f_X9_pushed f_X9_layPushes; rw [bs, hd, e2, bs, if_neg i10, e4, bs, if_pos rfl, bs, if_pos rfl]; rfl)
    · obtain ⟨p2, z2, D3, n, u1, u2, u3, u4, u5, u6, u7⟩ := L.ps pt zt hq hk e2 e4
      rcases rng w n with g | ⟨i, g, rfl, hi⟩ | ⟨i, g, hi, rfl⟩
      · exact fin3r H u3 1 (by decide) (by unfold f_X8_pushed; rw [e1, bs, if_pos rfl, e3, bs, if_pos rfl, u1, bs, if_pos g]; rfl) (by unfold f_X9_pushed; rw [bs, hd, u2, bs, if_neg i10, if_pos g]; rfl)
      · exact fin3 H u3 (p2.2 13 i) (by unfold f_X8_pushed; rw [e1, bs, if_pos rfl, e3, bs, if_pos rfl, u1, bs, if_neg (nI_pos hi), u4, if_pos (nI_lt g (by omega)), rA_n (by omega) (by decide), bs]; rfl) (by unfold f_X9_pushed; rw [bs, hd, u2, bs, if_neg i10, if_neg (nI_pos hi), u5, if_pos (nI_lt g (by omega)), rA_c (by omega) (by decide) (u7 i g), bs]; rfl)
      · exact fin3r H u3 1 (by decide) (by unfold f_X8_pushed; rw [e1, bs, if_pos rfl, e3, bs, if_pos rfl, u1, bs, if_neg (nI_pos hi), u4, if_neg (nI_nlt g hi)]; rfl) (by unfold f_X9_pushed; rw [bs, hd, u2, bs, if_neg i10, if_neg (nI_pos hi), u5, if_neg (nI_nlt g hi)]; rfl)
theorem TLX.ft {l w v : Nat} (L : TLX st bg nd no X m sc t p z e h rs D) (pt zt : Pic) (hl : l ≤ 24) (hw : 1 ≤ w ∧ w ≤ 4) (hv : v < 3) : ∃ D' pt' zt' x, f_X9_foretells D (nI l) (nI w) (nI v) = some (x, D') ∧ f_X8_foretell m sc t pt zt e (nI l) (nI w) = some (pt', zt') ∧ pt'.2 12 v = x ∧ KD D D' := by
  have R := L.2.2.2.2.2.1
  obtain ⟨D', pt', zt', x, a1, a2, a3, a4, a5, a6⟩ := both_ft (m := m) (sc := sc) (pt := pt) (zt := zt) R L.2.2.2.2.2.2.2.1 hl hw hv L.2.1.2.1 L.2.2.1.1 L.2.2.1.2.1 L.2.2.1.2.2.2 L.2.1.2.2.1 L.2.1.2.2.2 L.m0.1 L.2.2.2.1.2.1 L.2.2.2.1.2.2.1 L.2.2.2.1.2.2.2 L.2.2.2.2.1
  exact ⟨D', pt', zt', x, a1, a2, a3, fun k _ hk => a4 k hk, a5, fun j hj => by rw [a6 j hj, R.1 j hj]⟩
theorem q_foretold (H : RLX m b sc c t p z e h rs d) (x y w : Int32) : ∃ v m' pt' zt' d', f_X8_foretold m sc t pt zt e x y w = some (v, m', pt', zt') ∧ f_X9_foretold d x y w = some (v, d') ∧ RLX m' b sc c t p z e h rs d' := by
  have H := H.d0
  generalize hd : pS d 0 0 = D at H
  rcases H.2.2.2.2 with U | ⟨st, bg, nd, no, X, L⟩
  · exact fin3r H KD.rf 1 (by decide) (by unfold f_X8_foretold; rw [if_pos U.1]; rfl) (by unfold f_X9_foretold; rw [bs, hd, if_pos U.2.1]; rfl)
  · rcases c_in w 0 2 (by decide) (by decide) with ⟨v, i1, i2, rfl, i4⟩ | ⟨i1, i2, i3⟩
    · have e8 : f_X8_foretold m sc t pt zt e x y (nI v) = (f_X8_noLimit x).bind fun u2 => if u2 = 0 then if y < 1 then b_X8_foretold_39 sc t e x y (nI v) m pt zt else if y ≤ 4 then (f_X8_foretell m sc t pt zt e x y).bind fun u4 => (rA u4.1 12 4 (nI v)).bind fun v5_ => (f_X8_answer m v5_).bind fun u6 => some (u6.1, u6.2, u4.1, u4.2) else b_X8_foretold_39 sc t e x y (nI v) m pt zt else b_X8_foretold_39 sc t e x y (nI v) m pt zt := by
        unfold f_X8_foretold
        rw [if_neg L.m0.1, if_neg (nI_pos (by omega)), if_pos (show nI v ≤ 2 from nI_le (b := 2) i2 (by decide))]
      have e9 : f_X9_foretold d x y (nI v) = (f_X9_in x 1 24).bind fun u4 => if u4 = 0 then b_X9_foretold_46 x y (nI v) D else (f_X9_in y 1 4).bind fun u6 => if u6 = 0 then b_X9_foretold_46 x y (nI v) D else (f_X9_foretells D x y (nI v)).bind fun u7 => (f_X9_good u7.2 u7.1).bind fun u8 => some (u8.1, u8.2) := by
        unfold f_X9_foretold
        rw [bs, hd, if_neg L.m0.2, show f_X9_in (nI v) 0 2 = some 1 from i4, bs, if_neg (by decide)]
      rcases c_lm x with ⟨l, l1, l2, rfl, e1, e2⟩ | ⟨e1, e2⟩
      · rw [e1, bs, if_pos rfl] at e8
        rw [e2, bs, if_neg (by decide)] at e9
        rcases c_in y 1 4 (by decide) (by decide) with ⟨s, j1, j2, rfl, j4⟩ | ⟨j1, j2, j3⟩
        · obtain ⟨D', pt', zt', r, a1, a2, a3, a4⟩ := L.ft pt zt l2 ⟨j1, j2⟩ (v := v) (by omega)
          rw [if_neg (show ¬ nI s < 1 from nI_nlt (b := 1) j1 (by omega)), if_pos (show nI s ≤ 4 from nI_le (b := 4) j2 (by decide)), a2, bs, rA_c (by omega) (by decide) a3, bs] at e8
          rw [show f_X9_in (nI s) 1 4 = some 1 from j4, bs, if_neg (by decide), a1, bs] at e9
          exact fin3 H a4 r (by rw [e8]; rfl) (by rw [e9]; rfl)
        · rw [show f_X9_in y 1 4 = some 0 from j1, bs, if_pos rfl] at e9
          refine fin3r H KD.rf 2 (by decide) (pt' := pt) (zt' := zt) ?_ (by rw [e9]; rfl)
          rw [e8]
          rcases j2 with j2 | ⟨j2, j4⟩
          · rw [if_pos (show y < 1 from j2)]; rfl
          · rw [if_neg (show ¬ y < 1 from j2), if_neg]
            · rfl
            · intro q
              have j4' : (4 : Int32) < y := j4
              rw [Int32.lt_iff_toInt_lt] at j4'
              rw [Int32.le_iff_toInt_le] at q
              omega
      · rw [e1, bs, if_neg (by decide)] at e8
        rw [e2, bs, if_pos rfl] at e9
        exact fin3r H KD.rf 2 (by decide) (by rw [e8]; rfl) (by rw [e9]; rfl)
    · refine fin3r H KD.rf 1 (by decide) (pt' := pt) (zt' := zt) ?_ (by unfold f_X9_foretold; rw [bs, hd, if_neg L.m0.2, show f_X9_in w 0 2 = some 0 from i1, bs, if_pos rfl]; rfl)
      unfold f_X8_foretold
      rw [if_neg L.m0.1]
      by_cases g : w < 0
      · rw [if_pos g]; rfl
      · rw [if_neg g, if_neg]
        · rfl
        · obtain ⟨j, hj, rfl⟩ := nI_of g
          exact fun q => i3 j (by omega) (by have := (nI_leI (b := 2) hj (by decide)).mp q; omega) rfl
theorem both_en2 (L0 : TLX st bg nd no X m sc t p z e h rs D) : ∀ (r l n1 n2 : Nat) (D1 pt zt : Pic), l + r = 25 → 1 ≤ l → r < n1 → r < n2 → TLX st bg nd no X m sc t p z e h rs D1 → KD D D1 → ∃ w pt' zt' D', L_X8_enough_15 sc t e n1 m pt zt (nI l) = ((f_X8_answer m w).bind fun u => some (u.1, u.2, pt', zt')) ∧ L_X9_enough_20 n2 D1 (nI l) = ((f_X9_good D' w).bind fun u => some (u.1, u.2)) ∧ KD D D' := by
  intro r
  induction r with
  | zero =>
    intro l n1 n2 D1 pt zt h1 h2 h3 h4 L k
    cases n1 with
    | zero => omega
    | succ n1 =>
      cases n2 with
      | zero => omega
      | succ n2 =>
        have : l = 25 := by omega
        subst this
        refine ⟨-2, pt, zt, D1, ?_, ?_, k⟩
        · show b_X8_enough_15 sc t e _ m pt zt (nI 25) = _
          unfold b_X8_enough_15
          rw [if_pos (by decide)]
        · show b_X9_enough_20 _ D1 (nI 25) = _
          unfold b_X9_enough_20
          rw [if_pos (by decide)]
  | succ r ih =>
    intro l n1 n2 D1 pt zt h1 h2 h3 h4 L k
    cases n1 with
    | zero => omega
    | succ n1 =>
      cases n2 with
      | zero => omega
      | succ n2 =>
        obtain ⟨D', pt', zt', x, a1, a2, a3, a4⟩ := L.ft pt zt (l := l) (by omega) L.2.1.1 (v := 1) (by decide)
        have e8 : L_X8_enough_15 sc t e (n1 + 1) m pt zt (nI l) = if x = 0 then (f_X8_answer m (nI l)).bind fun u4 => some (u4.1, u4.2, pt', zt') else L_X8_enough_15 sc t e n1 m pt' zt' (nI (l + 1)) := by
          show b_X8_enough_15 sc t e _ m pt zt (nI l) = _
          unfold b_X8_enough_15
          rw [if_neg (show ¬ (24 : Int32) < nI l from nI_nlt (a := 24) (by omega) (by decide)), L.2.2.2.1.1, a2, bs, show rA pt' 12 4 1 = some x from rA_c (j := 1) (by decide) (by decide) a3, bs, nI_1]
        have e9 : L_X9_enough_20 (n2 + 1) D1 (nI l) = if x = 0 then (f_X9_good D' (nI l)).bind fun u4 => some (u4.1, u4.2) else L_X9_enough_20 n2 D' (nI (l + 1)) := by
          show b_X9_enough_20 _ D1 (nI l) = _
          unfold b_X9_enough_20
          rw [if_neg (show ¬ (24 : Int32) < nI l from nI_nlt (a := 24) (by omega) (by decide)), L.2.2.1.1, show f_X9_foretells D1 (nI l) (nI st) 1 = _ from a1, bs, nI_1]
        rw [e8, e9]
        by_cases g : x = 0
        · rw [if_pos g, if_pos g]
          exact ⟨nI l, pt', zt', D', rfl, rfl, k.tr a4⟩
        · rw [if_neg g, if_neg g]
          exact ih (l + 1) n1 n2 D' pt' zt' (by omega) (by omega) (by omega) (by omega) (L.fr rfl a4.kx) (k.tr a4)
theorem q_enough (H : RLX m b sc c t p z e h rs d) : ∃ v m' pt' zt' d', f_X8_enough m sc t pt zt e = some (v, m', pt', zt') ∧ f_X9_enough d = some (v, d') ∧ RLX m' b sc c t p z e h rs d' := by
  have H := H.d0
  generalize hd : pS d 0 0 = D at H
  rcases H.2.2.2.2 with U | ⟨st, bg, nd, no, X, L⟩
  · exact fin3r H KD.rf 1 (by decide) (by unfold f_X8_enough; rw [if_pos U.1]; rfl) (by unfold f_X9_enough; rw [bs, hd, if_pos U.2.1]; rfl)
  · obtain ⟨w, pt', zt', D', v1, v2, v3⟩ := both_en2 L 24 1 FU FU D pt zt (by omega) (by omega) (FU_ge (by omega)) (FU_ge (by omega)) L KD.rf
    exact fin3 H v3 w (by unfold f_X8_enough; rw [if_neg L.m0.1, show L_X8_enough_15 sc t e FU m pt zt 1 = _ from v1]; rfl) (by unfold f_X9_enough; rw [bs, hd, if_neg L.m0.2, show L_X9_enough_20 FU D 1 = _ from v2]; rfl)
end QI
