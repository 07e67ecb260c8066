/-! (B) questions that count -/
section QF
variable {m b sc c t p z e h d D D' : Pic} {rs : Nat → Option Q4} {st bg nd no : Nat} {X : Nat → Nat}
theorem m_plc (R : RR st d p z X) (v : Nat) (hv : v < 4) : f_X9_placed d (nI v) = some (nI (sm (fun q => if X (165 + q) = v then 1 else 0) 0 30)) := by
  have := loop_sm (L := L_X9_placed_4 d (nI v)) (fin := fun a => some a) (f := fun q => if X (165 + q) = v then 1 else 0) (m := 30) (fun n acc => by
    show b_X9_placed_4 d (nI v) _ (nI acc) (nI 30) = _
    unfold b_X9_placed_4
    rw [if_pos (by decide)]) (fun n acc j hj => by
    show b_X9_placed_4 d (nI v) _ (nI acc) (nI j) = _
    have hs : X (165 + j) < 2 ^ 31 := R.2.2.2.sml _ (by omega)
    unfold b_X9_placed_4
    rw [if_neg (show ¬ (30 : Int32) ≤ nI j from nI_ge (b := 30) hj (by decide)), m_pl R.1 hj, bs, nI_1]
    by_cases g : X (165 + j) = v
    · rw [if_pos (by rw [g]), if_pos g, nI_1]
    · rw [if_neg (fun w => g ((nI_eq hs (by omega)).mp w)), if_neg g, show (0 : Int32) = nI 0 from rfl, nI_add, nI_1]) 30 0 FU 0 (by omega) (FU_ge (by omega))
  rw [Nat.zero_add] at this
  exact this
theorem p_plc (R : RR st d p z X) (v : Nat) (hv : v < 4) : f_X3_countAt p (nI v) = some (nI (sm (fun q => if X (165 + q) = v then 1 else 0) 0 30)) := by
  have := loop_sm (L := L_X3_countAt_4 p (nI v)) (fin := fun a => some a) (f := fun q => if X (165 + q) = v then 1 else 0) (m := 30) (fun n acc => by
    show b_X3_countAt_4 p (nI v) _ (nI acc) (nI 30) = _
    unfold b_X3_countAt_4
    rw [if_pos (by decide)]) (fun n acc j hj => by
    show b_X3_countAt_4 p (nI v) _ (nI acc) (nI j) = _
    have hs : X (165 + j) < 2 ^ 31 := R.2.2.2.sml _ (by omega)
    unfold b_X3_countAt_4
    rw [if_neg (show ¬ (30 : Int32) ≤ nI j from nI_ge (b := 30) hj (by decide)), rA_c hj (by decide) (R.2.1.1 j hj), bs, nI_1]
    by_cases g : X (165 + j) = v
    · rw [if_pos (by rw [g]), if_pos g, nI_1]
    · rw [if_neg (fun w => g ((nI_eq hs (by omega)).mp w)), if_neg g, show (0 : Int32) = nI 0 from rfl, nI_add, nI_1]) 30 0 FU 0 (by omega) (FU_ge (by omega))
  rw [Nat.zero_add] at this
  exact this
def unX (X : Nat → Nat) : Nat := sm (fun q => if X (165 + q) = 2 then X (195 + q) else 0) 0 30
theorem m_un (R : RR st d p z X) : f_X9_sizesTogether d = some (nI (unX X)) := by
  have := loop_sm (L := L_X9_sizesTogether_4 d) (fin := fun a => some a) (f := fun q => if X (165 + q) = 2 then X (195 + q) else 0) (m := 30) (fun n acc => by
    show b_X9_sizesTogether_4 d _ (nI acc) (nI 30) = _
    unfold b_X9_sizesTogether_4
    rw [if_pos (by decide)]) (fun n acc j hj => by
    show b_X9_sizesTogether_4 d _ (nI acc) (nI j) = _
    have hs : X (165 + j) < 2 ^ 31 := R.2.2.2.sml _ (by omega)
    unfold b_X9_sizesTogether_4
    rw [if_neg (show ¬ (30 : Int32) ≤ nI j from nI_ge (b := 30) hj (by decide)), m_pl R.1 hj, bs, nI_1]
    by_cases g : X (165 + j) = 2
    · rw [if_pos (by rw [g]; rfl), if_pos g, show (195 : Int32) = nI 195 from rfl, nI_add, m_x R.1 (by omega), bs, nI_add]
    · rw [if_neg (fun w => g ((nI_e2 hs).mp w)), if_neg g, show (0 : Int32) = nI 0 from rfl, nI_add]) 30 0 FU 0 (by omega) (FU_ge (by omega))
  rw [Nat.zero_add] at this
  exact this
theorem p_un (R : RR st d p z X) : f_X3_unitsTaken p = some (nI (unX X)) := by
  have := loop_sm (L := L_X3_unitsTaken_4 p) (fin := fun a => some a) (f := fun q => if X (165 + q) = 2 then X (195 + q) else 0) (m := 30) (fun n acc => by
    show b_X3_unitsTaken_4 p _ (nI acc) (nI 30) = _
    unfold b_X3_unitsTaken_4
    rw [if_pos (by decide)]) (fun n acc j hj => by
    show b_X3_unitsTaken_4 p _ (nI acc) (nI j) = _
    have hs : X (165 + j) < 2 ^ 31 := R.2.2.2.sml _ (by omega)
    unfold b_X3_unitsTaken_4
    rw [if_neg (show ¬ (30 : Int32) ≤ nI j from nI_ge (b := 30) hj (by decide)), rA_c hj (by decide) (R.2.1.1 j hj), bs, nI_1]
    by_cases g : X (165 + j) = 2
    · rw [if_pos (by rw [g]; rfl), if_pos g, rA_c hj (by decide) (R.2.1.2.1 j hj g).1, bs, nI_add]
    · rw [if_neg (fun w => g ((nI_e2 hs).mp w)), if_neg g, show (0 : Int32) = nI 0 from rfl, nI_add]) 30 0 FU 0 (by omega) (FU_ge (by omega))
  rw [Nat.zero_add] at this
  exact this
theorem z_f0 (R : RR st d p z X) : gS z 0 = nI (frsX X) := R.2.2.1.1
theorem q_waste (H : RLX m b sc c t p z e h rs d) : ∃ v m' d', f_X8_waste m t p z = some (v, m') ∧ f_X9_waste d = some (v, d') ∧ RLX m' b sc c t p z e h rs d' := by
  have H := H.d0
  generalize hd : pS d 0 0 = D at H
  rcases H.2.2.2.2 with U | ⟨st, bg, nd, no, X, L⟩
  · exact finr H KD.rf 1 (by decide) (by unfold f_X8_waste; rw [if_pos U.1]; rfl) (by unfold f_X9_waste; rw [bs, hd, if_pos U.2.1]; rfl)
  · have R := L.2.2.2.2.2.1
    exact fin1 H KD.rf (nI (frsX X * 16) - nI (unX X)) (by unfold f_X8_waste; rw [if_neg L.m0.1, p_un R, bs, z_f0 R, show (16 : Int32) = nI 16 from rfl, nI_mul]; rfl) (by unfold f_X9_waste; rw [bs, hd, if_neg L.m0.2, m_fnow R.1 R.2.2.2.zw, bs, m_un R, bs, show (16 : Int32) = nI 16 from rfl, nI_mul, Nat.mul_comm]; rfl)
theorem q_about (H : RLX m b sc c t p z e h rs d) (x : Int32) : ∃ v m' d', f_X8_about m sc t p z x = some (v, m') ∧ f_X9_about d x = some (v, d') ∧ RLX m' b sc c t p z e h rs d' := by
  have H := H.d0
  generalize hd : pS d 0 0 = D at H
  rcases H.2.2.2.2 with U | ⟨st, bg, nd, no, X, L⟩
  · exact finr H KD.rf 1 (by decide) (by unfold f_X8_about; rw [if_pos U.1]; rfl) (by unfold f_X9_about; rw [bs, hd, if_pos U.2.1]; rfl)
  · have R := L.2.2.2.2.2.1
    have S := L.2.2.2.2.2.2.2.1
    have E := L.2.2.2.1
    have F := L.2.2.1
    have e8 : f_X8_about m sc t p z x = if x = 0 then (f_X8_answer m (nI (X 0))).bind fun u16 => some (u16.1, u16.2) else if x = 1 then (f_X8_answer m (nI st)).bind fun u15 => some (u15.1, u15.2) else if x = 2 then (f_X8_answer m (nI bg)).bind fun u14 => some (u14.1, u14.2) else if x = 3 then (f_X8_answer m (nI nd)).bind fun u13 => some (u13.1, u13.2) else if x = 4 then (f_X8_answer m (nI no)).bind fun u12 => some (u12.1, u12.2) else if x = 5 then (f_X8_answer m (nI (frsX X))).bind fun u11 => some (u11.1, u11.2) else if x = 6 then (f_X8_answer m (nI (sm (fun j => if clX X j = 0 then 0 else 1) 0 24))).bind fun u10 => some (u10.1, u10.2) else if x = 7 then (f_X8_answer m (nI (X 315))).bind fun u8 => some (u8.1, u8.2) else if x = 8 then (f_X8_answer m (nI (sm (fun q => if X (165 + q) = 1 then 1 else 0) 0 30))).bind fun u7 => some (u7.1, u7.2) else if x = 9 then (f_X8_answer m (nI (sm (fun q => if X (165 + q) = 3 then 1 else 0) 0 30))).bind fun u5 => some (u5.1, u5.2) else if x = 10 then (f_X8_answer m (nI (unX X))).bind fun u3 => some (u3.1, u3.2) else (f_X8_refuse m 1).bind fun u1 => some (u1.1, u1.2) := by
      unfold f_X8_about
      rw [if_neg L.m0.1, S.1, S.2.1, S.2.2.1, E.2.2.1, E.2.2.2, z_f0 R, z_cnt R.2.2.1 R.2.2.2.zw, bs, R.2.1.2.2.2.2.1, show f_X3_countAt p 1 = _ from p_plc R 1 (by decide), bs, show f_X3_countAt p 3 = _ from p_plc R 3 (by decide), bs, p_un R, bs]
    have e9 : f_X9_about d x = if x = 0 then (f_X9_good D (nI (X 0))).bind fun u20 => some (u20.1, u20.2) else if x = 1 then (f_X9_good D (nI st)).bind fun u18 => some (u18.1, u18.2) else if x = 2 then (f_X9_good D (nI bg)).bind fun u17 => some (u17.1, u17.2) else if x = 3 then (f_X9_good D (nI nd)).bind fun u16 => some (u16.1, u16.2) else if x = 4 then (f_X9_good D (nI no)).bind fun u15 => some (u15.1, u15.2) else if x = 5 then (f_X9_good D (nI (frsX X))).bind fun u14 => some (u14.1, u14.2) else if x = 6 then (f_X9_good D (nI (sm (fun j => if clX X j = 0 then 0 else 1) 0 24))).bind fun u12 => some (u12.1, u12.2) else if x = 7 then (f_X9_good D (nI (X 315))).bind fun u10 => some (u10.1, u10.2) else if x = 8 then (f_X9_good D (nI (sm (fun q => if X (165 + q) = 1 then 1 else 0) 0 30))).bind fun u8 => some (u8.1, u8.2) else if x = 9 then (f_X9_good D (nI (sm (fun q => if X (165 + q) = 3 then 1 else 0) 0 30))).bind fun u6 => some (u6.1, u6.2) else if x = 10 then (f_X9_good D (nI (unX X))).bind fun u4 => some (u4.1, u4.2) else (f_X9_refused D 1).bind fun u2 => some (u2.1, u2.2) := by
      have x0 : rA D 20 1234 0 = some (nI (X 0)) := m_x R.1 (j := 0) (by decide)
      have x315 : rA D 20 1234 315 = some (nI (X 315)) := m_x R.1 (j := 315) (by decide)
      unfold f_X9_about
      rw [bs, hd, if_neg L.m0.2, x0, bs, F.1, F.2.1, F.2.2.1, F.2.2.2, m_fnow R.1 R.2.2.2.zw, bs, m_znow R.1 R.2.2.2.zw, bs, x315, bs, show f_X9_placed D 1 = _ from m_plc R 1 (by decide), bs, show f_X9_placed D 3 = _ from m_plc R 3 (by decide), bs, m_un R, bs]
    rw [e8, e9]
    by_cases g0 : x = 0
    · rw [if_pos g0, if_pos g0]; exact aG H KD.rf _
    rw [if_neg g0, if_neg g0]
    by_cases g1 : x = 1
    · rw [if_pos g1, if_pos g1]; exact aG H KD.rf _
    rw [if_neg g1, if_neg g1]
    by_cases g2 : x = 2
    · rw [if_pos g2, if_pos g2]; exact aG H KD.rf _
    rw [if_neg g2, if_neg g2]
    by_cases g3 : x = 3
    · rw [if_pos g3, if_pos g3]; exact aG H KD.rf _
    rw [if_neg g3, if_neg g3]
    by_cases g4 : x = 4
    · rw [if_pos g4, if_pos g4]; exact aG H KD.rf _
    rw [if_neg g4, if_neg g4]
    by_cases g5 : x = 5
    · rw [if_pos g5, if_pos g5]; exact aG H KD.rf _
    rw [if_neg g5, if_neg g5]
    by_cases g6 : x = 6
    · rw [if_pos g6, if_pos g6]; exact aG H KD.rf _
    rw [if_neg g6, if_neg g6]
    by_cases g7 : x = 7
    · rw [if_pos g7, if_pos g7]; exact aG H KD.rf _
    rw [if_neg g7, if_neg g7]
    by_cases g8 : x = 8
    · rw [if_pos g8, if_pos g8]; exact aG H KD.rf _
    rw [if_neg g8, if_neg g8]
    by_cases g9 : x = 9
    · rw [if_pos g9, if_pos g9]; exact aG H KD.rf _
    rw [if_neg g9, if_neg g9]
    by_cases g10 : x = 10
    · rw [if_pos g10, if_pos g10]; exact aG H KD.rf _
    rw [if_neg g10, if_neg g10]
    exact aR H KD.rf 1 (by decide)
theorem p_agI (R : RR st d p z X) {q : Nat} (hq : q < 30) : f_X3_ageOf p (nI q) = some (oI (agI X q)) := by
  have a30 := R.2.2.2.a30
  exact loop_fn (L := L_X3_ageOf_2 p (nI q)) (fin := fun o => some (oI o)) (P := fun k => decide (X (285 + k) = q)) (m := X 315) (fun n => by
    show b_X3_ageOf_2 p (nI q) _ (nI (X 315)) = _
    unfold b_X3_ageOf_2
    rw [R.2.1.2.2.2.2.1, if_pos (nI_le (Nat.le_refl _) (by omega))]; rfl) (fun n k hk => by
    show b_X3_ageOf_2 p (nI q) _ (nI k) = _
    have hs : X (285 + k) < 2 ^ 31 := R.2.2.2.sml _ (by omega)
    unfold b_X3_ageOf_2
    rw [R.2.1.2.2.2.2.1, if_neg (nI_ge hk (by omega)), if_neg (show ¬ (30 : Int32) ≤ nI k from nI_ge (b := 30) (by omega) (by decide)), rA_c (by omega) (by decide) (R.2.1.2.2.2.2.2 k hk), bs, nI_1]
    by_cases g : X (285 + k) = q
    · rw [if_pos (by rw [g]), if_pos (by simp [g])]; rfl
    · rw [if_neg (fun w => g ((nI_eq hs (by omega)).mp w)), if_neg (by simp [g])]) (X 315) 0 FU (by omega) (FU_ge (by omega))
theorem q_pooled (H : RLX m b sc c t p z e h rs d) (x y : Int32) : ∃ v m' d', f_X8_pooled m t p x y = some (v, m') ∧ f_X9_pooled d x y = some (v, d') ∧ RLX m' b sc c t p z e h rs d' := by
  have H := H.d0
  generalize hd : pS d 0 0 = D at H
  rcases c_pg H x with ⟨e1, e2⟩ | ⟨q, st, bg, nd, no, X, hq, rfl, e1, e2, L⟩
  · exact finr H KD.rf 1 (by decide) (by unfold f_X8_pooled; rw [e1, bs, if_neg (by decide)]; rfl) (by unfold f_X9_pooled; rw [bs, hd, e2, bs, if_pos rfl]; rfl)
  · have R := L.2.2.2.2.2.1
    have hs : X (165 + q) < 2 ^ 31 := R.2.2.2.sml _ (by omega)
    rcases c_in y 0 4 (by decide) (by decide) with ⟨i, i1, i2, rfl, i4⟩ | ⟨i1, i2, i3⟩
    · by_cases g : X (165 + q) = 2
      · have R5 := R.2.1.2.1 q hq g
        have n2 : nI (X (165 + q)) = 2 := by rw [g]; rfl
        have e8 : f_X8_pooled m t p (nI q) (nI i) = if nI i = 0 then (f_X8_answer m (nI (X (195 + q)))).bind fun u13 => some (u13.1, u13.2) else if nI i = 1 then (f_X8_answer m (nI (X (225 + q)))).bind fun u11 => some (u11.1, u11.2) else if nI i = 2 then (f_X8_answer m (nI (X (255 + q)))).bind fun u9 => some (u9.1, u9.2) else if nI i = 3 then (f_X8_answer m (oI (agI X q))).bind fun u7 => some (u7.1, u7.2) else (f_X8_answer m (nI (X (1204 + q)))).bind fun u5 => some (u5.1, u5.2) := by
          unfold f_X8_pooled
          rw [e1, bs, if_pos rfl, if_neg (nI_pos (by omega)), if_pos (show nI i ≤ 4 from nI_le (b := 4) i2 (by decide)), rA_c hq (by decide) (R.2.1.1 q hq), bs, if_pos n2, rA_c hq (by decide) R5.1, bs, rA_c hq (by decide) R5.2.1, bs, rA_c hq (by decide) R5.2.2, bs, p_agI R hq, bs, rA_c hq (by decide) (R.2.1.2.2.1 q hq), bs]
        have e9 : f_X9_pooled d (nI q) (nI i) = if nI i = 0 then (f_X9_good D (nI (X (195 + q)))).bind fun u15 => some (u15.1, u15.2) else if nI i = 1 then (f_X9_good D (nI (X (225 + q)))).bind fun u13 => some (u13.1, u13.2) else if nI i = 2 then (f_X9_good D (nI (X (255 + q)))).bind fun u11 => some (u11.1, u11.2) else if nI i = 3 then (f_X9_good D (oI (agI X q))).bind fun u9 => some (u9.1, u9.2) else (f_X9_good D (nI (X (1204 + q)))).bind fun u7 => some (u7.1, u7.2) := by
          unfold f_X9_pooled
          rw [bs, hd, e2, bs, if_neg (by decide), show f_X9_in (nI i) 0 4 = some 1 from i4, bs, if_neg (by decide), m_pl R.1 hq, bs, if_pos n2, show (195 : Int32) + nI q = nI (195 + q) from nI_add 195 q, m_x R.1 (by omega), bs, show (225 : Int32) + nI q = nI (225 + q) from nI_add 225 q, m_x R.1 (by omega), bs, show (255 : Int32) + nI q = nI (255 + q) from nI_add 255 q, m_x R.1 (by omega), bs, m_agI R.1 R.2.2.2.sml R.2.2.2.a30 (by omega), bs, show (1204 : Int32) + nI q = nI (1204 + q) from nI_add 1204 q, m_x R.1 (by omega), bs]
        rw [e8, e9]
        have : i = 0 ∨ i = 1 ∨ i = 2 ∨ i = 3 ∨ i = 4 := by omega
        rcases this with rfl | rfl | rfl | rfl | rfl
        · exact aG H KD.rf _
        · exact aG H KD.rf _
        · exact aG H KD.rf _
        · exact aG H KD.rf _
        · exact aG H KD.rf _
      · have n2 : ¬ nI (X (165 + q)) = 2 := fun w => g ((nI_e2 hs).mp w)
        exact finr H KD.rf 5 (by decide) (by unfold f_X8_pooled; rw [e1, bs, if_pos rfl, if_neg (nI_pos (by omega)), if_pos (show nI i ≤ 4 from nI_le (b := 4) i2 (by decide)), rA_c hq (by decide) (R.2.1.1 q hq), bs, if_neg n2]; rfl) (by unfold f_X9_pooled; rw [bs, hd, e2, bs, if_neg (by decide), show f_X9_in (nI i) 0 4 = some 1 from i4, bs, if_neg (by decide), m_pl R.1 hq, bs, if_neg n2]; rfl)
    · refine finr H KD.rf 1 (by decide) ?_ (by unfold f_X9_pooled; rw [bs, hd, e2, bs, if_neg (by decide), show f_X9_in y 0 4 = some 0 from i1, bs, if_pos rfl]; rfl)
      unfold f_X8_pooled
      rw [e1, bs, if_pos rfl]
      by_cases g : y < 0
      · rw [if_pos g]; rfl
      · rw [if_neg g, if_neg]
        · rfl
        · obtain ⟨j, hj, rfl⟩ := nI_of g
          exact fun w => i3 j (by omega) (by have := (nI_leI (b := 4) hj (by decide)).mp w; omega) rfl
theorem rm_16 : ∀ s, s < 17 → 0 < s → rmI (16 * nI (frN s)) (nI s) = some (nI (16 * frN s % s)) := by decide +kernel
theorem q_sizes (H : RLX m b sc c t p z e h rs d) (x y : Int32) : ∃ v m' d', f_X8_sizes m t p z x y = some (v, m') ∧ f_X9_sizes d x y = some (v, d') ∧ RLX m' b sc c t p z e h rs d' := by
  have H := H.d0
  generalize hd : pS d 0 0 = D at H
  rcases c_cl H x with ⟨e1, e2⟩ | ⟨s, st, bg, nd, no, X, hs, h0, hm, rfl, e1, e2, L⟩
  · exact finr H KD.rf 1 (by decide) (by unfold f_X8_sizes; rw [e1, bs, if_neg (by decide)]; rfl) (by unfold f_X9_sizes; rw [bs, hd, e2, bs, if_pos rfl]; rfl)
  · have R := L.2.2.2.2.2.1
    have e8 : f_X8_sizes m t p z (nI s) y = if y = 0 then (f_X8_answer m (nI (frN s))).bind fun u12 => some (u12.1, u12.2) else if y = 1 then (f_X8_answer m (nI (slN s))).bind fun u10 => some (u10.1, u10.2) else if y = 2 then (f_X8_answer m (nI (16 * frN s % s))).bind fun u8 => some (u8.1, u8.2) else if y = 3 then (f_X8_answer m (nI (sm (fun j => if clX X j = s then 1 else 0) 0 24))).bind fun u6 => some (u6.1, u6.2) else if y = 4 then (f_X8_answer m (nI (sm (fun j => if clX X j = s then filX X j else 0) 0 24))).bind fun u4 => some (u4.1, u4.2) else (f_X8_refuse m 1).bind fun u2 => some (u2.1, u2.2) := by
      unfold f_X8_sizes
      rw [e1, bs, if_pos rfl, X0_fr s hs, bs, X0_sl s hs, bs, X0_sp s hs h0, bs, z_cof R.2.2.1 R.2.2.2.zw hs, bs, z_pof R.2.2.1 R.2.2.2.zw hs, bs]
    have e9 : f_X9_sizes d (nI s) y = (f_X9_in y 0 4).bind fun u4 => if u4 = 0 then b_X9_sizes_22 (nI s) y D else if y = 0 then (f_X9_good D (nI (frN s))).bind fun u15 => some (u15.1, u15.2) else if y = 1 then (f_X9_good D (nI (slN s))).bind fun u13 => some (u13.1, u13.2) else if y = 2 then (f_X9_good D (nI (16 * frN s % s))).bind fun u11 => some (u11.1, u11.2) else if y = 3 then (f_X9_good D (nI (sm (fun j => if clX X j = s then 1 else 0) 0 24))).bind fun u8 => some (u8.1, u8.2) else (f_X9_good D (nI (sm (fun j => if clX X j = s then filX X j else 0) 0 24))).bind fun u6 => some (u6.1, u6.2) := by
      unfold f_X9_sizes
      rw [bs, hd, e2, bs, if_neg (by decide), X9_fr s hs h0, bs, bs, X9_sl s hs h0, bs, rm_16 s hs h0, bs, m_zof R.1 R.2.2.2.zw hs, bs, m_pof R.1 R.2.2.2.sml R.2.2.2.zw hs, bs]
    rcases c_in y 0 4 (by decide) (by decide) with ⟨i, i1, i2, rfl, i4⟩ | ⟨i1, i2, i3⟩
    · rw [show f_X9_in (nI i) 0 4 = some 1 from i4, bs, if_neg (by decide)] at e9
      rw [e8, e9]
      have : i = 0 ∨ i = 1 ∨ i = 2 ∨ i = 3 ∨ i = 4 := by omega
      rcases this with rfl | rfl | rfl | rfl | rfl
      · exact aG H KD.rf _
      · exact aG H KD.rf _
      · exact aG H KD.rf _
      · exact aG H KD.rf _
      · exact aG H KD.rf _
    · rw [show f_X9_in y 0 4 = some 0 from i1, bs, if_pos rfl] at e9
      rw [if_neg (show ¬ y = 0 from i3 0 (by omega) (by omega)), if_neg (show ¬ y = 1 from i3 1 (by omega) (by omega)), if_neg (show ¬ y = 2 from i3 2 (by omega) (by omega)), if_neg (show ¬ y = 3 from i3 3 (by omega) (by omega)), if_neg (show ¬ y = 4 from i3 4 (by omega) (by omega))] at e8
      exact finr H KD.rf 1 (by decide) (by rw [e8]; rfl) (by rw [e9]; rfl)
theorem q_next (H : RLX m b sc c t p z e h rs d) (x : Int32) : ∃ v m' d', f_X8_next m t p z x = some (v, m') ∧ f_X9_next d x = some (v, d') ∧ RLX m' b sc c t p z e h rs d' := by
  have H := H.d0
  generalize hd : pS d 0 0 = D at H
  rcases H.2.2.2.2 with U | ⟨st, bg, nd, no, X, L⟩
  · exact finr H KD.rf 1 (by decide) (by unfold f_X8_next; rw [if_pos U.1]; rfl) (by unfold f_X9_next; rw [bs, hd, if_pos U.2.1]; rfl)
  · have R := L.2.2.2.2.2.1
    have S := L.2.2.2.2.2.2.2.1
    have hst := L.2.1.1
    rcases c_si x with ⟨i, i1, i2, rfl, e1, e2⟩ | ⟨e1, e2⟩
    · have h17 := ho17 st (by omega) (by omega) i (by omega) (by omega)
      refine fin1 H KD.rf (o2I (nxX X (hoN i st))) (by unfold f_X8_next; rw [if_neg L.m0.1, e1, bs, if_pos rfl, S.2.1, X0_ho st (by omega) (by omega) i (by omega) (by omega), bs, p_zf S.1 R.2.2.1 R.2.2.2 h17.2 h17.1, bs]; rfl) ?_
      have mf := m_ful R.1 R.2.2.2.sml R.2.2.2.zw h17.2 h17.1 (but := none) (fun c hc => by cases hc)
      unfold f_X9_next
      rw [bs, hd, if_neg L.m0.2, e2, bs, if_neg (by decide), L.2.2.1.1, X9_ho st (by omega) (by omega) i (by omega) (by omega), bs, show f_X9_fullestOf D (nI (hoN i st)) (-1) = _ from mf.1, bs]
      cases hf : fulS X (hoN i st) none with
      | some zn =>
        have := mf.2 zn hf
        rw [if_neg (show ¬ oI (some zn) = -1 from nI_m1 (by omega)), nx_f hf]
        rfl
      | none =>
        have x0 : rA D 20 1234 0 = some (nI (X 0)) := m_x R.1 (j := 0) (by decide)
        have l24 := R.2.2.2.li
        have f24 := R.2.2.2.fr
        have fp := fr_pos (hoN i st) h17.2 h17.1
        rw [if_pos (show oI none = -1 from rfl), m_fnow R.1 R.2.2.2.zw, bs, X9_fr _ h17.2 h17.1, bs, x0, bs, nI_add, nx_n hf]
        by_cases g : frsX X + frN (hoN i st) ≤ X 0
        · obtain ⟨zz, z1, z2, z3⟩ := fz_some (s := hoN i st) R.2.2.2.zw h17.2 h17.1 (by omega)
          rw [if_neg (nI_nlt g (by omega)), if_pos g, m_fz R.1 R.2.2.2.zw z1, bs, z1]
          rfl
        · rw [if_pos (nI_lt (by omega) (by omega)), if_neg g]
          rfl
    · exact finr H KD.rf 2 (by decide) (by unfold f_X8_next; rw [if_neg L.m0.1, e1, bs, if_neg (by decide)]; rfl) (by unfold f_X9_next; rw [bs, hd, if_neg L.m0.2, e2, bs, if_pos rfl]; rfl)
theorem q_op (H : RLX m b sc c t p z e h rs d) (x y : Int32) : ∃ v m' d', f_X8_op m sc x y = some (v, m') ∧ f_X9_op d x y = some (v, d') ∧ RLX m' b sc c t p z e h rs d' := by
  have H := H.d0
  generalize hd : pS d 0 0 = D at H
  rcases H.2.2.2.2 with U | ⟨st, bg, nd, no, X, L⟩
  · exact finr H KD.rf 1 (by decide) (by unfold f_X8_op f_X8_noOp; rw [if_pos U.1, bs, if_neg (by decide)]; rfl) (by unfold f_X9_op; rw [bs, hd, if_pos U.2.1]; rfl)
  · have hno := L.2.1.2.2.2
    rcases rng x no with g | ⟨i, g, rfl, hi⟩ | ⟨i, g, hi, rfl⟩
    · exact finr H KD.rf 1 (by decide) (by unfold f_X8_op f_X8_noOp; rw [if_neg L.m0.1, if_pos g, bs, if_neg (by decide)]; rfl) (by unfold f_X9_op; rw [bs, hd, if_neg L.m0.2, if_pos g]; rfl)
    · obtain ⟨w, q, k, ⟨a1, a2, a3⟩, ⟨b1, b2, b3⟩, c1, c2⟩ := L.2.2.2.2.1 i g
      have e8 : f_X8_op m sc (nI i) y = if y = 0 then (f_X8_answer m (nI w)).bind fun u8 => some (u8.1, u8.2) else if y = 1 then (f_X8_answer m (nI q)).bind fun u6 => some (u6.1, u6.2) else if y = 2 then (f_X8_answer m (sc.2 8 i)).bind fun u4 => some (u4.1, u4.2) else (f_X8_refuse m 1).bind fun u2 => some (u2.1, u2.2) := by
        unfold f_X8_op f_X8_noOp
        rw [if_neg L.m0.1, if_neg (nI_pos hi), L.2.2.2.1.2.2.2, if_pos (nI_lt g (by omega)), bs, if_pos rfl, rA_c (by omega) (by decide) a1, bs, rA_c (by omega) (by decide) b1, bs, rA_n (by omega) (by decide), bs]
      have e9 : f_X9_op d (nI i) y = (f_X9_in y 0 2).bind fun u3 => if u3 = 0 then b_X9_op_33 (nI i) y D else if y = 0 then b_X9_op_73 (nI i) y D (nI w) else if y = 1 then b_X9_op_73 (nI i) y D (nI q) else b_X9_op_73 (nI i) y D (sc.2 8 i) := by
        unfold f_X9_op
        rw [bs, hd, if_neg L.m0.2, if_neg (nI_pos hi), L.2.2.1.2.2.2, if_neg (nI_ge g (by omega)), rA_c (by omega) (by decide) a2, bs, rA_c (by omega) (by decide) b2, bs, rA_c (by omega) (by decide) c1.symm, bs]
      rcases c_in y 0 2 (by decide) (by decide) with ⟨j, i1, i2, rfl, i4⟩ | ⟨i1, i2, i3⟩
      · rw [show f_X9_in (nI j) 0 2 = some 1 from i4, bs, if_neg (by decide)] at e9
        rw [e8, e9]
        have : j = 0 ∨ j = 1 ∨ j = 2 := by omega
        rcases this with rfl | rfl | rfl
        · exact aG H KD.rf _
        · exact aG H KD.rf _
        · exact aG H KD.rf _
      · rw [show f_X9_in y 0 2 = some 0 from i1, bs, if_pos rfl] at e9
        rw [if_neg (show ¬ y = 0 from i3 0 (by omega) (by omega)), if_neg (show ¬ y = 1 from i3 1 (by omega) (by omega)), if_neg (show ¬ y = 2 from i3 2 (by omega) (by omega))] at e8
        exact finr H KD.rf 1 (by decide) (by rw [e8]; rfl) (by rw [e9]; rfl)
    · exact finr H KD.rf 1 (by decide) (by unfold f_X8_op f_X8_noOp; rw [if_neg L.m0.1, if_neg (nI_pos hi), L.2.2.2.1.2.2.2, if_neg (nI_nlt g hi), bs, if_neg (by decide)]; rfl) (by unfold f_X9_op; rw [bs, hd, if_neg L.m0.2, if_neg (nI_pos hi), L.2.2.1.2.2.2, if_pos (nI_le g hi)]; rfl)
end QF
