/-! (B) questions that look up -/
section QE
variable {m b sc c t p z e h d D D' : Pic} {rs : Nat → Option Q4} {st bg nd no : Nat} {X : Nat → Nat}
theorem fin1 {F8 F9 : Option (Int32 × Pic)} (H : RLX m b sc c t p z e h rs D) (k : KD D D') (v : Int32) (e8 : F8 = some (v, pS m 3 0)) (e9 : F9 = some (v, pS (pS D' 1 0) 2 (-1))) : ∃ v m' d', F8 = some (v, m') ∧ F9 = some (v, d') ∧ RLX m' b sc c t p z e h rs d' := ⟨v, _, _, e8, e9, H.set k H.2.2.2.1 0 (by decide)⟩
theorem finr {F8 F9 : Option (Int32 × Pic)} (H : RLX m b sc c t p z e h rs D) (k : KD D D') (w : Int32) (hw : ¬ w = 4) (e8 : F8 = some (-1, pS m 3 w)) (e9 : F9 = some (-1, pS (pS D' 1 w) 2 (-1))) : ∃ v m' d', F8 = some (v, m') ∧ F9 = some (v, d') ∧ RLX m' b sc c t p z e h rs d' := ⟨-1, _, _, e8, e9, H.set k H.2.2.2.1 w hw⟩
theorem q_page (H : RLX m b sc c t p z e h rs d) (x : Int32) : ∃ v m' d', f_X8_page m t p x = some (v, m') ∧ f_X9_page d x = some (v, d') ∧ RLX m' b sc c t p z e h rs d' := by
  have H := H.d0
  generalize hd : pS d 0 0 = D at H
  rcases c_pg H x with ⟨e1, e2⟩ | ⟨q, st, bg, nd, no, X, hq, rfl, e1, e2, L⟩
  · exact finr H KD.rf 1 (by decide) (by unfold f_X8_page; rw [e1, bs, if_neg (by decide)]; rfl) (by unfold f_X9_page; rw [bs, hd, e2, bs, if_pos rfl]; rfl)
  · have R := L.2.2.2.2.2.1
    exact fin1 H KD.rf (nI (X (165 + q))) (by unfold f_X8_page; rw [e1, bs, if_pos rfl, rA_c hq (by decide) (R.2.1.1 q hq), bs]; rfl) (by unfold f_X9_page; rw [bs, hd, e2, bs, if_neg (by decide), m_pl R.1 hq, bs]; rfl)
theorem q_cell (H : RLX m b sc c t p z e h rs d) (x y : Int32) : ∃ v m' d', f_X8_cell m sc t e x y = some (v, m') ∧ f_X9_cell d x y = some (v, d') ∧ RLX m' b sc c t p z e h rs d' := by
  have H := H.d0
  generalize hd : pS d 0 0 = D at H
  rcases c_da H x with ⟨e1, e2⟩ | ⟨k, st, bg, nd, no, X, hk, rfl, e1, e2, L⟩
  · exact finr H KD.rf 1 (by decide) (by unfold f_X8_cell; rw [e1, bs, if_neg (by decide)]; rfl) (by unfold f_X9_cell; rw [bs, hd, e2, bs, if_pos rfl]; rfl)
  · have R := L.2.2.2.2.2.1
    have S := L.2.2.2.2.2.2.2.1
    have hnd := L.2.1.2.2.1
    rcases c_ce y with ⟨i, hi, rfl, e3, e4⟩ | ⟨e3, e4⟩
    · exact fin1 H KD.rf (nI (X (5 + (k * 16 + i)))) (by unfold f_X8_cell; rw [e1, bs, if_pos rfl, e3, bs, if_pos rfl, show (16 : Int32) = nI 16 from rfl, nI_mul, nI_add, rA_c (by omega) (by decide) (S.2.2.2.1 (k * 16 + i) (by omega)), bs]; rfl) (by unfold f_X9_cell; rw [bs, hd, e2, bs, if_neg (by decide), e4, bs, if_neg (by decide), m_da, bs, nI_add, m_x R.1 (by omega), bs, show 5 + 16 * k + i = 5 + (k * 16 + i) by omega]; rfl)
    · exact finr H KD.rf 1 (by decide) (by unfold f_X8_cell; rw [e1, bs, if_pos rfl, e3, bs, if_neg (by decide)]; rfl) (by unfold f_X9_cell; rw [bs, hd, e2, bs, if_neg (by decide), e4, bs, if_pos rfl]; rfl)
theorem TLX.ca (L : TLX st bg nd no X m sc t p z e h rs D) {k : Nat} (hk : k < nd) : ∃ D' N, f_X9_cutAll D (nI (5 + 16 * k)) = some (nI (TT (dcX X k) 0).1, D') ∧ FC D D' ∧ PCS 36 37 38 39 40 D' (dcX X k) N ∧ ALLP (dcX X k) N ∧ TBL 34 35 D' (dcX X k) 0 := by
  have hnd := L.2.1.2.2.1
  exact m_ca (by omega) (fun j hj => L.2.2.2.2.2.1.1 (5 + 16 * k + j) (by omega))
theorem q_squeezed (H : RLX m b sc c t p z e h rs d) (x : Int32) : ∃ v m' d', f_X8_squeezed m sc t x = some (v, m') ∧ f_X9_squeezed d x = some (v, d') ∧ RLX m' b sc c t p z e h rs d' := by
  have H := H.d0
  generalize hd : pS d 0 0 = D at H
  rcases c_da H x with ⟨e1, e2⟩ | ⟨k, st, bg, nd, no, X, hk, rfl, e1, e2, L⟩
  · exact finr H KD.rf 1 (by decide) (by unfold f_X8_squeezed; rw [e1, bs, if_neg (by decide)]; rfl) (by unfold f_X9_squeezed; rw [bs, hd, e2, bs, if_pos rfl]; rfl)
  · have S := L.2.2.2.2.2.2.2.1
    have hnd := L.2.1.2.2.1
    obtain ⟨D', N, w1, w2, w3, w4, w5⟩ := L.ca hk
    exact fin1 H w2.kd (nI (TT (dcX X k) 0).1) (by unfold f_X8_squeezed; rw [e1, bs, if_pos rfl, rA_c (by omega) (by decide) (S.2.2.2.2 k hk), bs]; rfl) (by unfold f_X9_squeezed; rw [bs, hd, e2, bs, if_neg (by decide), m_da, bs, w1, bs]; rfl)
theorem q_sort (H : RLX m b sc c t p z e h rs d) (x : Int32) : ∃ v m' d', f_X8_sort m sc t p x = some (v, m') ∧ f_X9_sort d x = some (v, d') ∧ RLX m' b sc c t p z e h rs d' := by
  have H := H.d0
  generalize hd : pS d 0 0 = D at H
  rcases c_da H x with ⟨e1, e2⟩ | ⟨k, st, bg, nd, no, X, hk, rfl, e1, e2, L⟩
  · exact finr H KD.rf 1 (by decide) (by unfold f_X8_sort; rw [e1, bs, if_neg (by decide)]; rfl) (by unfold f_X9_sort; rw [bs, hd, e2, bs, if_pos rfl]; rfl)
  · have S := L.2.2.2.2.2.2.2.1
    have R := L.2.2.2.2.2.1
    have hnd := L.2.1.2.2.1
    have hbg := L.2.1.2.1
    obtain ⟨D1, w1, w2⟩ := m_al (d := D) (c := dcX X k) (fr := 5 + 16 * k) (by omega) (fun j hj => R.1 (5 + 16 * k + j) (by omega))
    have L1 : TLX st bg nd no X m sc t p z e h rs D1 := L.fr rfl w2.kd.kx
    obtain ⟨D2, N, v1, v2, v3, v4, v5⟩ := L1.ca hk
    have tb := tt_b (c := dcX X k)
    have ez : f_X8_sort m sc t p (nI k) = (f_X1_isWordSize (nI (TT (dcX X k) 0).1)).bind fun u3 => if u3 = 0 then if nI (TT (dcX X k) 0).1 ≤ nI bg then b_X8_sort_57 sc t p (nI k) m 0 else b_X8_sort_57 sc t p (nI k) m 2 else (f_X8_answer m 1).bind fun u5 => some (u5.1, u5.2) := by
      unfold f_X8_sort
      rw [e1, bs, if_pos rfl, rA_c (by omega) (by decide) (S.2.2.2.2 k hk), bs, S.2.2.1]
    have em : f_X9_sort d (nI k) = if (if rnN (dcX X k) 0 = 16 then (1 : Int32) else 0) = 0 then if nI (TT (dcX X k) 0).1 ≤ nI bg then b_X9_sort_55 (nI k) D2 0 else b_X9_sort_55 (nI k) D2 2 else b_X9_sort_55 (nI k) D1 1 := by
      unfold f_X9_sort
      rw [bs, hd, e2, bs, if_neg (by decide), m_da, bs, w1, bs, bs, v1, bs, v2.1 4 (by decide), w2.1 4 (by decide), L.2.2.1.2.1]
    unfold f_X1_isWordSize at ez
    by_cases g : rnN (dcX X k) 0 = 16
    · have gt := tt_2.mpr g
      rw [if_pos (by rw [gt]; rfl), bs, if_neg (by decide)] at ez
      rw [if_pos g, if_neg (by decide)] at em
      exact fin1 H w2.kd 1 (by rw [ez]; rfl) (by rw [em]; rfl)
    · have gt : ¬ (TT (dcX X k) 0).1 = 2 := fun w => g (tt_2.mp w)
      rw [if_neg (fun w => gt ((nI_e2 (by omega)).mp w)), bs, if_pos rfl] at ez
      rw [if_neg g, if_pos rfl] at em
      by_cases g2 : (TT (dcX X k) 0).1 ≤ bg
      · rw [if_pos (nI_le g2 (by omega))] at ez em
        exact fin1 H (w2.kd.tr v2.kd) 0 (by rw [ez]; rfl) (by rw [em]; rfl)
      · rw [if_neg (nI_ge (by omega) (by omega))] at ez em
        exact fin1 H (w2.kd.tr v2.kd) 2 (by rw [ez]; rfl) (by rw [em]; rfl)
theorem q_home (H : RLX m b sc c t p z e h rs d) (x : Int32) : ∃ v m' d', f_X8_home m t p x = some (v, m') ∧ f_X9_home d x = some (v, d') ∧ RLX m' b sc c t p z e h rs d' := by
  have H := H.d0
  generalize hd : pS d 0 0 = D at H
  rcases H.2.2.2.2 with U | ⟨st, bg, nd, no, X, L⟩
  · exact finr H KD.rf 1 (by decide) (by unfold f_X8_home; rw [if_pos U.1]; rfl) (by unfold f_X9_home; rw [bs, hd, if_pos U.2.1]; rfl)
  · have S := L.2.2.2.2.2.2.2.1
    have hst := L.2.1.1
    rcases c_si x with ⟨i, i1, i2, rfl, e1, e2⟩ | ⟨e1, e2⟩
    · exact fin1 H KD.rf (nI (hoN i st)) (by unfold f_X8_home; rw [if_neg L.m0.1, e1, bs, if_pos rfl, S.2.1, X0_ho st (by omega) (by omega) i (by omega) (by omega), bs]; rfl) (by unfold f_X9_home; rw [bs, hd, if_neg L.m0.2, e2, bs, if_neg (by decide), L.2.2.1.1, X9_ho st (by omega) (by omega) i (by omega) (by omega), bs]; rfl)
    · exact finr H KD.rf 2 (by decide) (by unfold f_X8_home; rw [if_neg L.m0.1, e1, bs, if_neg (by decide)]; rfl) (by unfold f_X9_home; rw [bs, hd, if_neg L.m0.2, e2, bs, if_pos rfl]; rfl)
theorem q_zone (H : RLX m b sc c t p z e h rs d) (x y : Int32) : ∃ v m' d', f_X8_zone m t p z x y = some (v, m') ∧ f_X9_zone d x y = some (v, d') ∧ RLX m' b sc c t p z e h rs d' := by
  have H := H.d0
  generalize hd : pS d 0 0 = D at H
  rcases c_zo H x with ⟨e1, e2⟩ | ⟨j, st, bg, nd, no, X, hj, rfl, h0, e1, e2, L⟩
  · exact finr H KD.rf 1 (by decide) (by unfold f_X8_zone; rw [e1, bs, if_neg (by decide)]; rfl) (by unfold f_X9_zone; rw [bs, hd, e2, bs, if_pos rfl]; rfl)
  · have R := L.2.2.2.2.2.1
    have Z := R.2.2.1.2.1 j hj
    have hc := (R.2.2.2.zw j hj).1
    have ex : f_X8_zone m t p z (nI j) y = if y = 0 then (f_X8_answer m (nI (clX X j))).bind fun u8 => some (u8.1, u8.2) else if y = 1 then (f_X8_answer m (nI (frN (clX X j)))).bind fun u6 => some (u6.1, u6.2) else if y = 2 then (f_X8_answer m (nI (filX X j))).bind fun u4 => some (u4.1, u4.2) else (f_X8_refuse m 1).bind fun u2 => some (u2.1, u2.2) := by
      unfold f_X8_zone
      rw [e1, bs, if_pos rfl, rA_c hj (by decide) Z.1, bs, rA_c hj (by decide) Z.2.1, bs, rA_c hj (by decide) Z.2.2.2, bs]
    have em : f_X9_zone d (nI j) y = (f_X9_in y 0 2).bind fun u4 => if u4 = 0 then b_X9_zone_22 (nI j) y D else if y = 0 then b_X9_zone_62 (nI j) y D (nI (clX X j)) else if y = 1 then b_X9_zone_62 (nI j) y D (nI (frN (clX X j))) else b_X9_zone_62 (nI j) y D (nI (filX X j)) := by
      unfold f_X9_zone
      rw [bs, hd, e2, bs, if_neg (by decide), m_cl R.1 hj, bs, bs, X9_fr _ hc h0, bs, m_fil R.1 R.2.2.2.sml hj, bs]
    rcases c_in y 0 2 (by decide) (by decide) with ⟨i, i1, i2, rfl, i4⟩ | ⟨i1, i2, i3⟩
    · rw [show f_X9_in (nI i) 0 2 = some 1 from i4, bs, if_neg (by decide)] at em
      have : i = 0 ∨ i = 1 ∨ i = 2 := by omega
      rcases this with rfl | rfl | rfl
      · exact fin1 H KD.rf (nI (clX X j)) (by rw [ex]; rfl) (by rw [em]; rfl)
      · exact fin1 H KD.rf (nI (frN (clX X j))) (by rw [ex]; rfl) (by rw [em]; rfl)
      · exact fin1 H KD.rf (nI (filX X j)) (by rw [ex]; rfl) (by rw [em]; rfl)
    · rw [show f_X9_in y 0 2 = some 0 from i1, bs, if_pos rfl] at em
      rw [if_neg (show ¬ y = 0 from i3 0 (by omega) (by omega)), if_neg (show ¬ y = 1 from i3 1 (by omega) (by omega)), if_neg (show ¬ y = 2 from i3 2 (by omega) (by omega))] at ex
      exact finr H KD.rf 1 (by decide) (by rw [ex]; rfl) (by rw [em]; rfl)
theorem q_slot (H : RLX m b sc c t p z e h rs d) (x y : Int32) : ∃ v m' d', f_X8_slot m t p z x y = some (v, m') ∧ f_X9_slot d x y = some (v, d') ∧ RLX m' b sc c t p z e h rs d' := by
  have H := H.d0
  generalize hd : pS d 0 0 = D at H
  rcases c_zo H x with ⟨e1, e2⟩ | ⟨j, st, bg, nd, no, X, hj, rfl, h0, e1, e2, L⟩
  · exact finr H KD.rf 1 (by decide) (by unfold f_X8_slot; rw [e1, bs, if_neg (by decide)]; rfl) (by unfold f_X9_slot; rw [bs, hd, e2, bs, if_pos rfl]; rfl)
  · have R := L.2.2.2.2.2.1
    have Z := R.2.2.1.2.1 j hj
    have hc := (R.2.2.2.zw j hj).1
    have h16 := sl16 _ hc
    rcases rng y (slN (clX X j)) with g | ⟨i, g, rfl, hi⟩ | ⟨i, g, hi, rfl⟩
    · exact finr H KD.rf 1 (by decide) (by unfold f_X8_slot; rw [e1, bs, if_pos rfl, if_pos g]; rfl) (by unfold f_X9_slot; rw [bs, hd, e2, bs, if_neg (by decide), if_pos g]; rfl)
    · have hv := R.2.2.1.2.2 j i hj (by omega)
      have hsm : slX X j i < 2 ^ 31 := R.2.2.2.sml _ (by omega)
      have ex : f_X8_slot m t p z (nI j) (nI i) = some (pgI (slX X j i), pS m 3 0) := by
        unfold f_X8_slot
        rw [e1, bs, if_pos rfl, if_neg (nI_pos hi), rA_c hj (by decide) Z.2.2.1, bs, if_neg (nI_ge g (by omega)), if_pos (show nI i < 16 from nI_lt (b := 16) (by omega) (by decide)), show (16 : Int32) = nI 16 from rfl, nI_mul, nI_add, rA_c (by omega) (by decide) hv, bs]
        rfl
      refine fin1 H KD.rf (pgI (slX X j i)) ex ?_
      unfold f_X9_slot
      rw [bs, hd, e2, bs, if_neg (by decide), if_neg (nI_pos hi), m_cl R.1 hj, bs, X9_sl _ hc h0, bs, if_pos (nI_lt g (by omega)), m_at, bs, m_x R.1 (by omega), bs, bs, m_x R.1 (by omega), bs]
      show (if nI (slX X j i) = 0 then b_X9_slot_66 (nI j) (nI i) D (-2) else b_X9_slot_66 (nI j) (nI i) D (nI (slX X j i) - 1)) = _
      generalize slX X j i = w at hsm
      cases w with
      | zero => rfl
      | succ w =>
        rw [if_neg (nI_ne0 (by omega) hsm), nI_pred]
        rfl
    · refine finr H KD.rf 1 (by decide) ?_ (by unfold f_X9_slot; rw [bs, hd, e2, bs, if_neg (by decide), if_neg (nI_pos hi), m_cl R.1 hj, bs, X9_sl _ hc h0, bs, if_neg (nI_nlt g hi)]; rfl)
      unfold f_X8_slot
      rw [e1, bs, if_pos rfl, if_neg (nI_pos hi), rA_c hj (by decide) Z.2.2.1, bs, if_pos (nI_le g hi)]; rfl
theorem q_aged (H : RLX m b sc c t p z e h rs d) (x : Int32) : ∃ v m' d', f_X8_aged m t p x = some (v, m') ∧ f_X9_aged d x = some (v, d') ∧ RLX m' b sc c t p z e h rs d' := by
  have H := H.d0
  generalize hd : pS d 0 0 = D at H
  rcases H.2.2.2.2 with U | ⟨st, bg, nd, no, X, L⟩
  · exact finr H KD.rf 1 (by decide) (by unfold f_X8_aged; rw [if_pos U.1]; rfl) (by unfold f_X9_aged; rw [bs, hd, if_pos U.2.1]; rfl)
  · have R := L.2.2.2.2.2.1
    have a30 := R.2.2.2.a30
    rcases rng x (X 315) with g | ⟨i, g, rfl, hi⟩ | ⟨i, g, hi, rfl⟩
    · exact finr H KD.rf 1 (by decide) (by unfold f_X8_aged; rw [if_neg L.m0.1, if_pos g]; rfl) (by unfold f_X9_aged; rw [bs, hd, if_neg L.m0.2, if_pos g]; rfl)
    · exact fin1 H KD.rf (nI (X (285 + i))) (by unfold f_X8_aged; rw [if_neg L.m0.1, if_neg (nI_pos hi), R.2.1.2.2.2.2.1, if_pos (nI_lt g (by omega)), rA_c (by omega) (by decide) (R.2.1.2.2.2.2.2 i g), bs]; rfl) (by unfold f_X9_aged; rw [bs, hd, if_neg L.m0.2, if_neg (nI_pos hi), show (315 : Int32) = nI 315 from rfl, m_x R.1 (by decide), bs, if_pos (nI_lt g (by omega)), show (285 : Int32) = nI 285 from rfl, nI_add, m_x R.1 (by omega), bs]; rfl)
    · exact finr H KD.rf 1 (by decide) (by unfold f_X8_aged; rw [if_neg L.m0.1, if_neg (nI_pos hi), R.2.1.2.2.2.2.1, if_neg (nI_nlt g hi)]; rfl) (by unfold f_X9_aged; rw [bs, hd, if_neg L.m0.2, if_neg (nI_pos hi), show (315 : Int32) = nI 315 from rfl, m_x R.1 (by decide), bs, if_neg (nI_nlt g hi)]; rfl)
theorem q_total (H : RLX m b sc c t p z e h rs d) (x : Int32) : ∃ v m' d', f_X8_total m t p x = some (v, m') ∧ f_X9_total d x = some (v, d') ∧ RLX m' b sc c t p z e h rs d' := by
  have H := H.d0
  generalize hd : pS d 0 0 = D at H
  rcases H.2.2.2.2 with U | ⟨st, bg, nd, no, X, L⟩
  · exact finr H KD.rf 1 (by decide) (by unfold f_X8_total; rw [if_pos U.1]; rfl) (by unfold f_X9_total; rw [bs, hd, if_pos U.2.1]; rfl)
  · have R := L.2.2.2.2.2.1
    have P := L.2.2.2.2.2.2.1
    rcases c_in x 0 3 (by decide) (by decide) with ⟨i, i1, i2, rfl, i4⟩ | ⟨i1, i2, i3⟩
    · exact fin1 H KD.rf (nI (X (1 + i))) (by unfold f_X8_total; rw [if_neg L.m0.1, if_neg (nI_pos (by omega)), if_pos (show nI i < 4 from nI_lt (b := 4) (by omega) (by decide)), rA_c (by omega) (by decide) (P i (by omega)), bs]; rfl) (by unfold f_X9_total; rw [bs, hd, if_neg L.m0.2, show f_X9_in (nI i) 0 3 = some 1 from i4, bs, if_neg (by decide), show (1 : Int32) + nI i = nI (1 + i) from nI_add 1 i, m_x R.1 (by omega), bs]; rfl)
    · refine finr H KD.rf 1 (by decide) ?_ (by unfold f_X9_total; rw [bs, hd, if_neg L.m0.2, show f_X9_in x 0 3 = some 0 from i1, bs, if_pos rfl]; rfl)
      unfold f_X8_total
      rw [if_neg L.m0.1]
      by_cases g : x < 0
      · rw [if_pos g]; rfl
      · rw [if_neg g, if_neg]
        · rfl
        · obtain ⟨j, hj, rfl⟩ := nI_of g
          exact fun w => i3 j (by omega) (by have := (nI_ltI (b := 4) hj (by decide)).mp w; omega) rfl
theorem q_read (H : RLX m b sc c t p z e h rs d) (x y : Int32) : ∃ v m' d', f_X8_read m t p x y = some (v, m') ∧ f_X9_read d x y = some (v, d') ∧ RLX m' b sc c t p z e h rs d' := by
  have H := H.d0
  generalize hd : pS d 0 0 = D at H
  rcases c_pg H x with ⟨e1, e2⟩ | ⟨q, st, bg, nd, no, X, hq, rfl, e1, e2, L⟩
  · exact finr H KD.rf 1 (by decide) (by unfold f_X8_read; rw [e1, bs, if_neg (by decide)]; rfl) (by unfold f_X9_read; rw [bs, hd, e2, bs, if_pos rfl]; rfl)
  · have R := L.2.2.2.2.2.1
    have hsm : X (165 + q) < 2 ^ 31 := R.2.2.2.sml _ (by omega)
    rcases c_ce y with ⟨i, hi, rfl, e3, e4⟩ | ⟨e3, e4⟩
    · by_cases g : X (165 + q) = 0
      · exact finr H KD.rf 5 (by decide) (by unfold f_X8_read; rw [e1, bs, if_pos rfl, e3, bs, if_pos rfl, rA_c hq (by decide) (R.2.1.1 q hq), bs, g, if_pos (by decide)]; rfl) (by unfold f_X9_read; rw [bs, hd, e2, bs, if_neg (by decide), e4, bs, if_neg (by decide), m_pl R.1 hq, bs, g, if_pos (by decide)]; rfl)
      · have g' : ¬ nI (X (165 + q)) = 0 := fun w => g ((nI_e0 hsm).mp w)
        exact fin1 H KD.rf (nI (X (316 + 16 * q + i))) (by unfold f_X8_read; rw [e1, bs, if_pos rfl, e3, bs, if_pos rfl, rA_c hq (by decide) (R.2.1.1 q hq), bs, if_neg g', show (16 : Int32) = nI 16 from rfl, nI_mul, nI_add, rA_c (by omega) (by decide) (R.2.1.2.2.2.1 q hq g i hi), bs]; rfl) (by unfold f_X9_read; rw [bs, hd, e2, bs, if_neg (by decide), e4, bs, if_neg (by decide), m_pl R.1 hq, bs, if_neg g', show (16 : Int32) = nI 16 from rfl, nI_mul, show (316 : Int32) = nI 316 from rfl, nI_add, nI_add, m_x R.1 (by omega), bs]; rfl)
    · exact finr H KD.rf 1 (by decide) (by unfold f_X8_read; rw [e1, bs, if_pos rfl, e3, bs, if_neg (by decide)]; rfl) (by unfold f_X9_read; rw [bs, hd, e2, bs, if_neg (by decide), e4, bs, if_pos rfl]; rfl)
end QE
