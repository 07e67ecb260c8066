/-! (B) questions of cuts; pages alike; the coldest; the fittest step -/
section QG
variable {m b sc c t p z e h d D D' : Pic} {rs : Nat → Option Q4} {st bg nd no : Nat} {X : Nat → Nat}
theorem fin2 {F8 : Option (Int32 × Pic × Pic)} {F9 : Option (Int32 × Pic)} {c' : Pic} (H : RLX m b sc c t p z e h rs D) (k : KD D D') (hc : CIc c') (v : Int32) (e8 : F8 = some (v, pS m 3 0, c')) (e9 : F9 = some (v, pS (pS D' 1 0) 2 (-1))) : ∃ v m' c' d', F8 = some (v, m', c') ∧ F9 = some (v, d') ∧ RLX m' b sc c' t p z e h rs d' := ⟨v, _, _, _, e8, e9, H.set k hc 0 (by decide)⟩
theorem fin2r {F8 : Option (Int32 × Pic × Pic)} {F9 : Option (Int32 × Pic)} {c' : Pic} (H : RLX m b sc c t p z e h rs D) (k : KD D D') (hc : CIc c') (e8 : F8 = some (-1, pS m 3 1, c')) (e9 : F9 = some (-1, pS (pS D' 1 1) 2 (-1))) : ∃ v m' c' d', F8 = some (v, m', c') ∧ F9 = some (v, d') ∧ RLX m' b sc c' t p z e h rs d' := ⟨-1, _, _, _, e8, e9, H.set k hc 1 (by decide)⟩
theorem TLX.ec (L : TLX st bg nd no X m sc t p z e h rs D) {k : Nat} (hk : k < nd) : ∀ j, j < 16 → e.2 0 (k * 16 + j) = dcX X k j := fun j hj => by
  rw [L.2.2.2.2.2.2.2.1.2.2.2.1 (k * 16 + j) (by omega)]
  unfold dcX
  rw [show 5 + (k * 16 + j) = 5 + 16 * k + j by omega]
theorem TLX.ms (L : TLX st bg nd no X m sc t p z e h rs D) {k : Nat} (hk : k < nd) (hC : CIc c) : ∃ C', f_X1_measure c e (nI k * 16) = some C' ∧ CIc C' ∧ TBL 1 2 C' (dcX X k) 0 := by
  have hnd := L.2.1.2.2.1
  obtain ⟨C', w1, a1, b1, c1, t1⟩ := x_ms (C := c) (e := e) (fr := k * 16) (c := dcX X k) (by omega) hC.1 hC.2 (L.ec hk)
  refine ⟨C', by rw [show (16 : Int32) = nI 16 from rfl, nI_mul, w1], ⟨?_, ?_⟩, t1⟩
  · rw [(t1 16 (by omega) (by omega)).1, TT_16]
  · rw [(t1 16 (by omega) (by omega)).2, TT_16]
theorem q_fewest (H : RLX m b sc c t p z e h rs d) (x : Int32) : ∃ v m' c' d', f_X8_fewest m sc c t e x = some (v, m', c') ∧ f_X9_fewest d x = some (v, d') ∧ RLX m' b sc c' t p z e h rs d' := by
  have H := H.d0
  generalize hd : pS d 0 0 = D at H
  have hC := H.2.2.2.1
  rcases c_da H x with ⟨e1, e2⟩ | ⟨k, st, bg, nd, no, X, hk, rfl, e1, e2, L⟩
  · exact fin2r H KD.rf hC (by unfold f_X8_fewest; rw [e1, bs, if_neg (by decide)]; rfl) (by unfold f_X9_fewest; rw [bs, hd, e2, bs, if_pos rfl]; rfl)
  · obtain ⟨C', u1, u2, u3⟩ := L.ms hk hC
    obtain ⟨D', N, w1, w2, w3, w4, w5⟩ := L.ca hk
    exact fin2 H w2.kd u2 (nI (TT (dcX X k) 0).2) (by unfold f_X8_fewest; rw [e1, bs, if_pos rfl, u1, bs, show (0 : Int32) = nI 0 from rfl, rA_c (by decide) (by decide) (u3 0 (by omega) (by omega)).2, bs]; rfl) (by unfold f_X9_fewest; rw [bs, hd, e2, bs, if_neg (by decide), m_da, bs, w1, bs, show rA D' 35 17 0 = _ from rA_c (j := 0) (by decide) (by decide) (w5 0 (by omega) (by omega)).2, bs]; rfl)
theorem q_rest (H : RLX m b sc c t p z e h rs d) (x y : Int32) : ∃ v m' c' d', f_X8_rest m sc c t e x y = some (v, m', c') ∧ f_X9_rest d x y = some (v, d') ∧ RLX m' b sc c' t p z e h rs d' := by
  have H := H.d0
  generalize hd : pS d 0 0 = D at H
  have hC := H.2.2.2.1
  rcases c_da H x with ⟨e1, e2⟩ | ⟨k, st, bg, nd, no, X, hk, rfl, e1, e2, L⟩
  · exact fin2r H KD.rf hC (by unfold f_X8_rest; rw [e1, bs, if_neg (by decide)]; rfl) (by unfold f_X9_rest; rw [bs, hd, e2, bs, if_pos rfl]; rfl)
  · rcases c_ce y with ⟨i, hi, rfl, e3, e4⟩ | ⟨e3, e4⟩
    · obtain ⟨C', u1, u2, u3⟩ := L.ms hk hC
      obtain ⟨D', N, w1, w2, w3, w4, w5⟩ := L.ca hk
      exact fin2 H w2.kd u2 (nI (TT (dcX X k) i).1) (by unfold f_X8_rest; rw [e1, bs, if_pos rfl, e3, bs, if_pos rfl, u1, bs, rA_c (by omega) (by decide) (u3 i (by omega) (by omega)).1, bs]; rfl) (by unfold f_X9_rest; rw [bs, hd, e2, bs, if_neg (by decide), e4, bs, if_neg (by decide), m_da, bs, w1, bs, rA_c (by omega) (by decide) (w5 i (by omega) (by omega)).1, bs]; rfl)
    · exact fin2r H KD.rf hC (by unfold f_X8_rest; rw [e1, bs, if_pos rfl, e3, bs, if_neg (by decide)]; rfl) (by unfold f_X9_rest; rw [bs, hd, e2, bs, if_neg (by decide), e4, bs, if_pos rfl]; rfl)
theorem TLX.cd (L : TLX st bg nd no X m sc t p z e h rs D) {k : Nat} (hk : k < nd) (hC : CIc c) : ∃ C' D' N, f_X8_cutData m c t e (nI k) = some C' ∧ CIc C' ∧ PCS 3 4 5 6 7 C' (dcX X k) N ∧ f_X9_cutAll D (nI (5 + 16 * k)) = some (nI (TT (dcX X k) 0).1, D') ∧ FC D D' ∧ PCS 36 37 38 39 40 D' (dcX X k) N ∧ N ≤ 16 := by
  have hnd := L.2.1.2.2.1
  obtain ⟨C', N, a1, a2, a3, a4⟩ := x_cd (m := m) (t := t) (by omega) hC (L.ec hk)
  obtain ⟨D', N', w1, w2, w3, w4, w5⟩ := L.ca hk
  have : N = N' := pos_un a4.1 a4.2 w4.1 w4.2
  subst this
  exact ⟨C', D', N, a1, a2, a3, w1, w2, w3, a4.le⟩
theorem q_pieces (H : RLX m b sc c t p z e h rs d) (x : Int32) : ∃ v m' c' d', f_X8_pieces m sc c t e x = some (v, m', c') ∧ f_X9_pieces d x = some (v, d') ∧ RLX m' b sc c' t p z e h rs d' := by
  have H := H.d0
  generalize hd : pS d 0 0 = D at H
  have hC := H.2.2.2.1
  rcases c_da H x with ⟨e1, e2⟩ | ⟨k, st, bg, nd, no, X, hk, rfl, e1, e2, L⟩
  · exact fin2r H KD.rf hC (by unfold f_X8_pieces; rw [e1, bs, if_neg (by decide)]; rfl) (by unfold f_X9_pieces; rw [bs, hd, e2, bs, if_pos rfl]; rfl)
  · obtain ⟨C', D', N, u1, u2, u3, w1, w2, w3, w4⟩ := L.cd hk hC
    exact fin2 H w2.kd u2 (nI N) (by unfold f_X8_pieces; rw [e1, bs, if_pos rfl, u1, bs, u3.1]; rfl) (by unfold f_X9_pieces; rw [bs, hd, e2, bs, if_neg (by decide), m_da, bs, w1, bs, w3.1]; rfl)
theorem q_piece (H : RLX m b sc c t p z e h rs d) (x y w : Int32) : ∃ v m' c' d', f_X8_piece m sc c t e x y w = some (v, m', c') ∧ f_X9_piece d x y w = some (v, d') ∧ RLX m' b sc c' t p z e h rs d' := by
  have H := H.d0
  generalize hd : pS d 0 0 = D at H
  have hC := H.2.2.2.1
  rcases c_da H x with ⟨e1, e2⟩ | ⟨k, st, bg, nd, no, X, hk, rfl, e1, e2, L⟩
  · exact fin2r H KD.rf hC (by unfold f_X8_piece; rw [e1, bs, if_neg (by decide)]; rfl) (by unfold f_X9_piece; rw [bs, hd, e2, bs, if_pos rfl]; rfl)
  · obtain ⟨C', D', N, u1, u2, u3, w1, w2, w3, w4⟩ := L.cd hk hC
    have e8 : f_X8_piece m sc c t e (nI k) y w = if y < 0 then b_X8_piece_34 sc t e (nI k) y w m C' else if y < nI N then if w = 0 then (rA C' 3 16 y).bind fun v11_ => (f_X8_answer m v11_).bind fun u12 => some (u12.1, u12.2, C') else if w = 1 then (rA C' 4 16 y).bind fun v9_ => (f_X8_answer m v9_).bind fun u10 => some (u10.1, u10.2, C') else if w = 2 then (rA C' 5 16 y).bind fun v7_ => (f_X8_answer m v7_).bind fun u8 => some (u8.1, u8.2, C') else if w = 3 then (rA C' 6 16 y).bind fun v5_ => (f_X8_answer m v5_).bind fun u6 => some (u6.1, u6.2, C') else (f_X8_refuse m 1).bind fun u4 => some (u4.1, u4.2, C') else b_X8_piece_34 sc t e (nI k) y w m C' := by
      unfold f_X8_piece
      rw [e1, bs, if_pos rfl, u1, bs, u3.1]
    have e9 : f_X9_piece d (nI k) y w = if y < 0 then b_X9_piece_26 (nI k) y w D else (f_X9_in w 0 3).bind fun u4 => if u4 = 0 then b_X9_piece_26 (nI k) y w D else if y < nI N then if w = 0 then (rA D' 36 16 y).bind fun v13_ => (f_X9_good D' v13_).bind fun u14 => some (u14.1, u14.2) else if w = 1 then (rA D' 37 16 y).bind fun v11_ => (f_X9_good D' v11_).bind fun u12 => some (u12.1, u12.2) else if w = 2 then (rA D' 38 16 y).bind fun v9_ => (f_X9_good D' v9_).bind fun u10 => some (u10.1, u10.2) else (rA D' 39 16 y).bind fun v7_ => (f_X9_good D' v7_).bind fun u8 => some (u8.1, u8.2) else (f_X9_refused D' 1).bind fun u15 => some (u15.1, u15.2) := by
      unfold f_X9_piece
      rw [bs, hd, e2, bs, if_neg (by decide), m_da, bs, w1, bs, w3.1]
    rw [e8, e9]
    rcases rng y N with g | ⟨i, g, rfl, hi⟩ | ⟨i, g, hi, rfl⟩
    · rw [if_pos g, if_pos g]
      exact fin2r H KD.rf u2 rfl rfl
    · rw [if_neg (nI_pos hi), if_neg (nI_pos hi), if_pos (nI_lt g (by omega)), if_pos (nI_lt g (by omega))]
      obtain ⟨v1, v2, v3, v4⟩ := u3.2 i g
      obtain ⟨x1, x2, x3, x4⟩ := w3.2 i g
      rcases c_in w 0 3 (by decide) (by decide) with ⟨j, i1, i2, rfl, i4⟩ | ⟨i1, i2, i3⟩
      · rw [show f_X9_in (nI j) 0 3 = some 1 from i4, bs, if_neg (show ¬ (1 : Int32) = 0 by decide), rA_c (by omega) (by decide) v1, rA_c (by omega) (by decide) v2, rA_c (by omega) (by decide) v3, rA_c (by omega) (by decide) v4, rA_c (by omega) (by decide) x1, rA_c (by omega) (by decide) x2, rA_c (by omega) (by decide) x3, rA_c (by omega) (by decide) x4]
        have : j = 0 ∨ j = 1 ∨ j = 2 ∨ j = 3 := by omega
        rcases this with rfl | rfl | rfl | rfl
        · exact fin2 H w2.kd u2 _ rfl rfl
        · exact fin2 H w2.kd u2 _ rfl rfl
        · exact fin2 H w2.kd u2 _ rfl rfl
        · exact fin2 H w2.kd u2 _ rfl rfl
      · rw [show f_X9_in w 0 3 = some 0 from i1, bs, if_pos rfl, if_neg (show ¬ w = 0 from i3 0 (by omega) (by omega)), if_neg (show ¬ w = 1 from i3 1 (by omega) (by omega)), if_neg (show ¬ w = 2 from i3 2 (by omega) (by omega)), if_neg (show ¬ w = 3 from i3 3 (by omega) (by omega))]
        exact fin2r H KD.rf u2 rfl rfl
    · rw [if_neg (nI_pos hi), if_neg (nI_pos hi), if_neg (nI_nlt g hi), if_neg (nI_nlt g hi)]
      rcases c_in w 0 3 (by decide) (by decide) with ⟨j, i1, i2, rfl, i4⟩ | ⟨i1, i2, i3⟩
      · rw [show f_X9_in (nI j) 0 3 = some 1 from i4, bs, if_neg (show ¬ (1 : Int32) = 0 by decide)]
        exact fin2r H w2.kd u2 rfl rfl
      · rw [show f_X9_in w 0 3 = some 0 from i1, bs, if_pos rfl]
        exact fin2r H KD.rf u2 rfl rfl
def unl (X : Nat → Nat) (q r : Nat) : Option Nat := fnd (fun i => decide (X (316 + 16 * q + i) ≠ X (316 + 16 * r + i))) 16 0
theorem q_same (H : RLX m b sc c t p z e h rs d) (x y : Int32) : ∃ v m' d', f_X8_same m t p x y = some (v, m') ∧ f_X9_same d x y = some (v, d') ∧ RLX m' b sc c t p z e h rs d' := by
  have H := H.d0
  generalize hd : pS d 0 0 = D at H
  rcases c_pg H x with ⟨e1, e2⟩ | ⟨q, st, bg, nd, no, X, hq, rfl, e1, e2, L⟩
  · exact finr H KD.rf 1 (by decide) (by unfold f_X8_same; rw [e1, bs, if_neg (by decide)]; rfl) (by unfold f_X9_same; rw [bs, hd, e2, bs, if_pos rfl]; rfl)
  · rcases c_pg H y with ⟨e3, e4⟩ | ⟨r, _, _, _, _, _, hr, rfl, e3, e4, _⟩
    · exact finr H KD.rf 1 (by decide) (by unfold f_X8_same; rw [e1, bs, if_pos rfl, e3, bs, if_neg (by decide)]; rfl) (by unfold f_X9_same; rw [bs, hd, e2, bs, if_neg (by decide), e4, bs, if_pos rfl]; rfl)
    · have R := L.2.2.2.2.2.1
      have sq : X (165 + q) < 2 ^ 31 := R.2.2.2.sml _ (by omega)
      have sr : X (165 + r) < 2 ^ 31 := R.2.2.2.sml _ (by omega)
      have e8 : f_X8_same m t p (nI q) (nI r) = if nI (X (165 + q)) = 0 then b_X8_same_52 t p (nI q) (nI r) m else if nI (X (165 + r)) = 0 then b_X8_same_52 t p (nI q) (nI r) m else (f_X3_likeCells p (nI q) (nI r)).bind fun u7 => if u7 = 0 then b_X8_same_79 t p (nI q) (nI r) m 0 else b_X8_same_79 t p (nI q) (nI r) m 1 := by
        unfold f_X8_same
        rw [e1, bs, if_pos rfl, e3, bs, if_pos rfl, rA_c hq (by decide) (R.2.1.1 q hq), bs, rA_c hr (by decide) (R.2.1.1 r hr), bs]
      have e9 : f_X9_same d (nI q) (nI r) = if nI (X (165 + q)) = 0 then b_X9_same_43 (nI q) (nI r) D else if nI (X (165 + r)) = 0 then b_X9_same_43 (nI q) (nI r) D else L_X9_same_51 (nI q) (nI r) FU D 0 := by
        unfold f_X9_same
        rw [bs, hd, e2, bs, if_neg (by decide), e4, bs, if_neg (by decide), m_pl R.1 hq, bs, m_pl R.1 hr, bs]
      rw [e8, e9]
      by_cases g1 : X (165 + q) = 0
      · rw [if_pos (by rw [g1]; rfl), if_pos (by rw [g1]; rfl)]
        exact finr H KD.rf 5 (by decide) rfl rfl
      · rw [if_neg (fun w => g1 ((nI_e0 sq).mp w)), if_neg (fun w => g1 ((nI_e0 sq).mp w))]
        by_cases g2 : X (165 + r) = 0
        · rw [if_pos (by rw [g2]; rfl), if_pos (by rw [g2]; rfl)]
          exact finr H KD.rf 5 (by decide) rfl rfl
        · rw [if_neg (fun w => g2 ((nI_e0 sr).mp w)), if_neg (fun w => g2 ((nI_e0 sr).mp w))]
          have l8 : f_X3_likeCells p (nI q) (nI r) = some (if (unl X q r).isSome = true then 0 else 1) := by
            unfold f_X3_likeCells
            rw [p_pg hq, bs, if_neg (by decide), p_pg hr, bs, if_neg (by decide)]
            exact loop_fn (L := L_X3_likeCells_18 p (nI q) (nI r)) (fin := fun o => some (if o.isSome = true then 0 else 1)) (P := fun i => decide (X (316 + 16 * q + i) ≠ X (316 + 16 * r + i))) (m := 16) (fun n => by
              show b_X3_likeCells_18 p (nI q) (nI r) _ (nI 16) = _
              unfold b_X3_likeCells_18
              rw [if_pos (by decide)]; rfl) (fun n k hk => by
              show b_X3_likeCells_18 p (nI q) (nI r) _ (nI k) = _
              have s1 : X (316 + 16 * q + k) < 2 ^ 31 := R.2.2.2.sml _ (by omega)
              have s2 : X (316 + 16 * r + k) < 2 ^ 31 := R.2.2.2.sml _ (by omega)
              unfold b_X3_likeCells_18
              rw [if_neg (show ¬ (16 : Int32) ≤ nI k from nI_ge (b := 16) hk (by decide)), show (16 : Int32) = nI 16 from rfl, nI_mul, nI_mul, nI_add, nI_add, rA_c (by omega) (by decide) (R.2.1.2.2.2.1 q hq g1 k hk), bs, rA_c (by omega) (by decide) (R.2.1.2.2.2.1 r hr g2 k hk), bs, nI_1]
              by_cases g : X (316 + 16 * q + k) = X (316 + 16 * r + k)
              · rw [if_pos (by rw [g]), if_neg (by simp [g])]
              · rw [if_neg (fun w => g ((nI_eq s1 s2).mp w)), if_pos (by simp [g])]; rfl) 16 0 FU (by omega) (FU_ge (by omega))
          have l9 : L_X9_same_51 (nI q) (nI r) FU D 0 = (f_X9_good D (if (unl X q r).isSome = true then 0 else 1)).bind fun u => some (u.1, u.2) := by
            exact loop_fn (L := fun n i => L_X9_same_51 (nI q) (nI r) n D i) (fin := fun o => (f_X9_good D (if o.isSome = true then 0 else 1)).bind fun u => some (u.1, u.2)) (P := fun i => decide (X (316 + 16 * q + i) ≠ X (316 + 16 * r + i))) (m := 16) (fun n => by
              show b_X9_same_51 (nI q) (nI r) _ D (nI 16) = _
              unfold b_X9_same_51
              rw [if_pos (by decide)]; rfl) (fun n k hk => by
              show b_X9_same_51 (nI q) (nI r) _ D (nI k) = _
              have s1 : X (316 + 16 * q + k) < 2 ^ 31 := R.2.2.2.sml _ (by omega)
              have s2 : X (316 + 16 * r + k) < 2 ^ 31 := R.2.2.2.sml _ (by omega)
              unfold b_X9_same_51
              rw [if_neg (show ¬ (16 : Int32) ≤ nI k from nI_ge (b := 16) hk (by decide)), show (16 : Int32) = nI 16 from rfl, nI_mul, nI_mul, show (316 : Int32) = nI 316 from rfl, nI_add, nI_add, nI_add, nI_add, m_x R.1 (by omega), bs, m_x R.1 (by omega), bs, nI_1]
              by_cases g : X (316 + 16 * q + k) = X (316 + 16 * r + k)
              · rw [if_pos (by rw [g]), if_neg (by simp [g])]
              · rw [if_neg (fun w => g ((nI_eq s1 s2).mp w)), if_pos (by simp [g])]; rfl) 16 0 FU (by omega) (FU_ge (by omega))
          rw [l8, l9, bs]
          cases (unl X q r).isSome with
          | true => exact aG H KD.rf _
          | false => exact aG H KD.rf _
def cdX (X : Nat → Nat) (st s : Nat) : Option Nat := fnd (fun k => decide (hoN (X (195 + X (285 + k))) st = s)) (X 315) 0
def cdI (X : Nat → Nat) (o : Option Nat) : Int32 := match o with
  | none => -2
  | some k => nI (X (285 + k))
theorem ho_lt : ∀ st, st < 5 → 0 < st → ∀ v, v < 16 → hoN v st < 100 := by decide +kernel
theorem q_coldest (H : RLX m b sc c t p z e h rs d) (x : Int32) : ∃ v m' d', f_X8_coldest m t p x = some (v, m') ∧ f_X9_coldest d x = some (v, d') ∧ RLX m' b sc c t p z e h rs d' := by
  have H := H.d0
  generalize hd : pS d 0 0 = D at H
  rcases c_cl H x with ⟨e1, e2⟩ | ⟨s, st, bg, nd, no, X, hs, h0, hm, rfl, e1, e2, L⟩
  · exact finr H KD.rf 1 (by decide) (by unfold f_X8_coldest; rw [e1, bs, if_neg (by decide)]; rfl) (by unfold f_X9_coldest; rw [bs, hd, e2, bs, if_pos rfl]; rfl)
  · have R := L.2.2.2.2.2.1
    have S := L.2.2.2.2.2.2.2.1
    have hst := L.2.1.1
    have a30 := R.2.2.2.a30
    have hage : ∀ k, k < X 315 → X (285 + k) < 30 ∧ X (165 + X (285 + k)) = 2 := R.2.2.2.2.2.1.1
    have hpag : ∀ q, q < 30 → X (165 + q) = 2 → X (225 + q) < 24 ∧ clX X (X (225 + q)) = hoN (X (195 + q)) st ∧ 3 ≤ X (195 + q) ∧ X (195 + q) ≤ 15 := fun q hq h2 => by
      have := R.2.2.2.2.2.2.1 q hq h2
      exact ⟨this.1, this.2.2.2.1, this.2.2.2.2⟩
    have l8 : f_X3_coldestOf p (nI s) = some (cdI X (cdX X st s)) := by
      exact loop_fn (L := L_X3_coldestOf_2 p (nI s)) (fin := fun o => some (cdI X o)) (P := fun k => decide (hoN (X (195 + X (285 + k))) st = s)) (m := X 315) (fun n => by
        show b_X3_coldestOf_2 p (nI s) _ (nI (X 315)) = _
        unfold b_X3_coldestOf_2
        rw [R.2.1.2.2.2.2.1, if_pos (nI_le (Nat.le_refl _) (by omega))]; rfl) (fun n k hk => by
        show b_X3_coldestOf_2 p (nI s) _ (nI k) = _
        obtain ⟨q1, q2⟩ := hage k hk
        obtain ⟨_, _, q3, q4⟩ := hpag _ q1 q2
        have hh := ho_lt st (by omega) (by omega) (X (195 + X (285 + k))) (by omega)
        have es : f_X3_sizeOf p (nI (X (285 + k))) = some (nI (X (195 + X (285 + k)))) := by
          unfold f_X3_sizeOf
          rw [p_pg q1, bs, if_neg (by decide), rA_c q1 (by decide) (R.2.1.2.1 _ q1 q2).1, bs]
        unfold b_X3_coldestOf_2
        rw [R.2.1.2.2.2.2.1, if_neg (nI_ge hk (by omega)), if_neg (show ¬ (30 : Int32) ≤ nI k from nI_ge (b := 30) (by omega) (by decide)), rA_c (by omega) (by decide) (R.2.1.2.2.2.2.2 k hk), bs, es, bs, S.2.1, X0_ho st (by omega) (by omega) _ (by omega) (by omega), bs, bs, nI_1]
        by_cases g : hoN (X (195 + X (285 + k))) st = s
        · rw [if_pos (by rw [g]), if_pos (by simp [g])]; rfl
        · rw [if_neg (fun w => g ((nI_eq (by omega) (by omega)).mp w)), if_neg (by simp [g])]) (X 315) 0 FU (by omega) (FU_ge (by omega))
    have l9 : L_X9_coldest_21 (nI s) FU D 0 = (f_X9_good D (cdI X (cdX X st s))).bind fun u => some (u.1, u.2) := by
      exact loop_fn (L := fun n i => L_X9_coldest_21 (nI s) n D i) (fin := fun o => (f_X9_good D (cdI X o)).bind fun u => some (u.1, u.2)) (P := fun k => decide (hoN (X (195 + X (285 + k))) st = s)) (m := X 315) (fun n => by
        show b_X9_coldest_21 (nI s) _ D (nI (X 315)) = _
        unfold b_X9_coldest_21
        rw [show rA D 20 1234 315 = _ from m_x R.1 (j := 315) (by decide), bs, if_pos (nI_le (Nat.le_refl _) (by omega))]; rfl) (fun n k hk => by
        show b_X9_coldest_21 (nI s) _ D (nI k) = _
        obtain ⟨q1, q2⟩ := hage k hk
        obtain ⟨q0, q5, q3, q4⟩ := hpag _ q1 q2
        have hh := ho_lt st (by omega) (by omega) (X (195 + X (285 + k))) (by omega)
        unfold b_X9_coldest_21
        rw [show rA D 20 1234 315 = _ from m_x R.1 (j := 315) (by decide), bs, if_neg (nI_ge hk (by omega)), show (285 : Int32) + nI k = nI (285 + k) from nI_add 285 k, m_x R.1 (by omega), bs, show (225 : Int32) + nI (X (285 + k)) = nI (225 + X (285 + k)) from nI_add 225 _, m_x R.1 (by omega), bs, m_cl R.1 q0, bs, q5, nI_1]
        by_cases g : hoN (X (195 + X (285 + k))) st = s
        · rw [if_pos (by rw [g]), if_pos (by simp [g])]; rfl
        · rw [if_neg (fun w => g ((nI_eq (by omega) (by omega)).mp w)), if_neg (by simp [g])]) (X 315) 0 FU (by omega) (FU_ge (by omega))
    exact fin1 H KD.rf (cdI X (cdX X st s)) (by unfold f_X8_coldest; rw [e1, bs, if_pos rfl, l8, bs]; rfl) (by unfold f_X9_coldest; rw [bs, hd, e2, bs, if_neg (by decide), l9]; rfl)
end QG
