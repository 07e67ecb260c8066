/-! (B) reading: both at a token -/
def PSR (N : Nat) (r d : Pic) (a : Nat) : Prop := gS r 1 = nI N ∧ gS d 26 = nI N ∧ N ≤ 900 ∧ gS r 2 = nI a ∧ gS d 27 = nI a ∧ a ≤ N
def TKR (N : Nat) (T : Nat → Nat) (r d : Pic) (dw : Int64) (s a k : Nat) : Prop := (gS r 1 = nI N ∧ gS d 26 = nI N ∧ N ≤ 900) ∧ (gS r 3 = nI s ∧ gS d 29 = nI s ∧ s ≤ N) ∧ gS r 4 = nI k ∧ ((k = 0 ∧ gS d 28 = 1 ∧ PSR N r d a ∧ s = N) ∨ (k = 1 ∧ gS d 28 = 2 ∧ PSR N r d a ∧ s < a ∧ a ≤ s + 6 ∧ dw = lN (WN T s (a - s)) ∧ ∀ j, s ≤ j → j < a → 97 ≤ T j ∧ T j ≤ 122) ∨ (k = 2 ∧ gS d 28 = 3 ∧ PSR N r d a ∧ s < a ∧ a ≤ s + 3 ∧ gS d 30 = nI (nV T s (a - s)) ∧ ∀ j, s ≤ j → j < a → 48 ≤ T j ∧ T j ≤ 57) ∨ (k = 3 ∧ gS d 28 = 4 ∧ PSR N r d a ∧ s < a ∧ gS d 30 = 59) ∨ (k = 4 ∧ gS d 28 = 4 ∧ PSR N r d a ∧ s < a ∧ gS d 30 = 44) ∨ (k = 6 ∧ gS d 28 = 0))
def FRr (r r' : Pic) : Prop := (∀ k, k ≠ 2 → k ≠ 3 → k ≠ 4 → gS r' k = gS r k) ∧ r'.2 = r.2
def FRd (d d' : Pic) : Prop := (∀ k, k ≠ 27 → k ≠ 28 → k ≠ 29 → k ≠ 30 → gS d' k = gS d k) ∧ d'.2 = d.2
theorem FRr.tr {a b c : Pic} (h1 : FRr a b) (h2 : FRr b c) : FRr a c := ⟨fun k x y z => (h2.1 k x y z).trans (h1.1 k x y z), h2.2.trans h1.2⟩
theorem FRd.tr {a b c : Pic} (h1 : FRd a b) (h2 : FRd b c) : FRd a c := ⟨fun k x y z w => (h2.1 k x y z w).trans (h1.1 k x y z w), h2.2.trans h1.2⟩
section TM
variable {r b d : Pic} {T : Nat → Nat} {N i s q κ : Nat} {dw : Int64}
theorem x_132 {a : Nat} (κ : Nat) (m : Nat) (h3 : gS r 3 = nI s) (h2 : gS r 2 = nI a) (h4 : gS r 4 = nI κ) (hsa : s ≤ a) (ha : a ≤ 900) (hc : (κ = 1 ∧ m = 6) ∨ (κ = 2 ∧ m = 3)) : ∃ r', b_X4_advance_132 b r 1 = some r' ∧ gS r' 2 = nI a ∧ gS r' 3 = nI s ∧ gS r' 4 = nI (if a - s ≤ m then κ else 6) ∧ FRr r r' := by
  unfold b_X4_advance_132 b_X4_advance_159
  rw [if_neg (by decide), h2, h3, h4, nI_sub hsa]
  have fin : ∀ M : Int32, M = nI m → ∃ r', (if nI (a - s) ≤ M then some r else (some (pS r 4 6)).bind fun r_ar4 => some r_ar4) = some r' ∧ gS r' 2 = nI a ∧ gS r' 3 = nI s ∧ gS r' 4 = nI (if a - s ≤ m then κ else 6) ∧ FRr r r' := by
    intro M hM
    subst hM
    by_cases g : a - s ≤ m
    · rw [if_pos (nI_le g (by omega)), if_pos g]
      exact ⟨r, rfl, h2, h3, h4, fun _ _ _ _ => rfl, rfl⟩
    · rw [if_neg (nI_ge (by omega) (by omega)), if_neg g, bs]
      exact ⟨_, rfl, by rw [gS_n (by decide)]; exact h2, by rw [gS_n (by decide)]; exact h3, by rw [gS_s]; rfl, fun k _ _ hk => gS_n hk, rfl⟩
  rcases hc with ⟨e1, e2⟩ | ⟨e1, e2⟩
  · subst e1 e2
    rw [if_pos (by decide)]
    exact fin 6 rfl
  · subst e1 e2
    rw [if_neg (by decide)]
    exact fin 3 rfl
/-- both go over a token -/
theorem both_adv (hP : PSR N r d q) (hT : TPE b d T) (h31 : gS d 31 = 0) : ∃ r' d' dw' s a k, f_X4_advance r b = some r' ∧ f_X9_goOn d dw = some (d', dw') ∧ TKR N T r' d' dw' s a k ∧ q ≤ s ∧ FRr r r' ∧ FRd d d' := by
  obtain ⟨p1, p2, p3, p4, p5, p6⟩ := hP
  obtain ⟨r1, w1, a1, b1, c1⟩ := x_sk p3 hT (N - q) q (FU + 1) r (by omega) (Nat.lt_succ_of_lt (FU_ge (by omega))) p1 p4
  obtain ⟨d1, v1, e1, f1, g1⟩ := m_sk (dw := dw) (b := b) (T := T) p3 (N - q) q FU d (by omega) (FU_ge (by omega)) p2 p5 hT
  obtain ⟨hs1, hs2, hs3, hs4⟩ := sp_b (T := T) (P := isB) p6
  generalize spN T isB N q = s at a1 e1 hs1 hs2 hs3 hs4
  have ew : f_X4_advance r b = b_X4_advance_36 b r1 := w1
  have ev : f_X9_goOn d dw = gT d1 dw := by
    unfold f_X9_goOn
    rw [h31, if_pos (by decide)]
    exact v1
  have hT1 : TPE b d1 T := hT.of (by rw [g1])
  obtain ⟨r2, w2, a2, b2, c2⟩ := pS_e r1 3 (gS r1 2)
  have r2_1 : gS r2 1 = nI N := by rw [b2 1 (by decide), b1 1 (by decide)]; exact p1
  have r2_2 : gS r2 2 = nI s := by rw [b2 2 (by decide)]; exact a1
  have r2_3 : gS r2 3 = nI s := by rw [a2]; exact a1
  obtain ⟨κ, hκ⟩ : ∃ κ, κ = if s < N then kN (T s) else 0 := ⟨_, rfl⟩
  have ek : f_X4_kindAt r2 b (gS r2 2) = some (nI κ) := by rw [r2_2, x_ka r2_1 p3 hT (by omega), hκ]
  obtain ⟨r3, w3, a3, b3, c3⟩ := pS_e r2 4 (nI κ)
  have r3_1 : gS r3 1 = nI N := by rw [b3 1 (by decide)]; exact r2_1
  have r3_2 : gS r3 2 = nI s := by rw [b3 2 (by decide)]; exact r2_2
  have r3_3 : gS r3 3 = nI s := by rw [b3 3 (by decide)]; exact r2_3
  have fr3 : FRr r r3 := ⟨fun k h2 h3 h4 => by rw [b3 k h4, b2 k h3, b1 k h2], by rw [c3, c2, c1]⟩
  have e36 : f_X4_advance r b = if nI κ = 1 then L_X4_advance_78 b FU r3 1 else if nI κ = 2 then L_X4_advance_78 b FU r3 1 else L_X4_advance_78 b FU r3 0 := by
    rw [ew]
    unfold b_X4_advance_36
    rw [bs, w2, ek, bs, bs, w3, a3]
  obtain ⟨d2, v2, x2, y2, z2⟩ := pS_e d1 29 (gS d1 27)
  have d2_26 : gS d2 26 = nI N := by rw [y2 26 (by decide), f1 26 (by decide)]; exact p2
  have d2_27 : gS d2 27 = nI s := by rw [y2 27 (by decide)]; exact e1
  have d2_29 : gS d2 29 = nI s := by rw [x2]; exact e1
  have hT2 : TPE b d2 T := hT1.of (by rw [z2])
  have fd2 : FRd d d2 := ⟨fun k h7 h8 h9 h0 => by rw [y2 k h9, f1 k h7], by rw [z2, g1]⟩
  have eg : f_X9_goOn d dw = if byI N T s = (-1) then (some (pS d2 28 1)).bind fun d_ad9 => some (d_ad9, dw) else (f_X9_in (byI N T s) 97 122).bind fun u4 => if u4 = 0 then (f_X9_in (byI N T s) 48 57).bind fun u5 => if u5 = 0 then (f_X9_nextSign d2 (byI N T s)).bind fun u6 => some (u6, dw) else (f_X9_nextWhole d2).bind fun u7 => some (u7, dw) else (f_X9_nextWord d2 dw).bind fun u8 => some (u8.1, u8.2) := by
    rw [ev]
    unfold gT
    rw [bs, v2, d2_27, m_by d2_26 p3 hT2 (by omega), bs]
  by_cases hN' : s < N
  · have hb := (hT s (by omega)).1
    have hk := kN_sp (T s) hb
    rw [if_pos hN'] at hκ
    have hby : byI N T s = nI (T s) := if_pos hN'
    have hin1 := m_inb (i := s) hT p3 (lo := 97) (hi := 122) (by decide) (by decide)
    have hin2 := m_inb (i := s) hT p3 (lo := 48) (hi := 57) (by decide) (by decide)
    have hm1 : ¬ byI N T s = -1 := by rw [hby]; exact nI_m1 (by omega)
    rw [if_neg hm1] at eg
    by_cases k1 : κ = 1
    · have hL := hk.1.mp (by omega)
      rw [if_pos ⟨hN', hL⟩] at hin1
      rw [show f_X9_in (byI N T s) 97 122 = some 1 from hin1, bs, if_neg (by decide)] at eg
      rw [k1, if_pos (by decide)] at e36
      obtain ⟨r4, w4, a4, b4, c4⟩ := x_sp (b := b) (s := s) (κ := 1) p3 hT (by decide) (N - s) s FU r3 (by omega) (FU_ge (by omega)) r3_1 r3_2 r3_3 (by rw [a3, k1]) (Nat.le_refl _) (fun _ => ⟨hN', by omega⟩)
      obtain ⟨q1, q2, q3, q4⟩ := sp_b (T := T) (P := isK 1) hs2
      obtain ⟨d4, v4, x4, y4, z4, t4⟩ := m_wdl (b := b) (T := T) (s := s) p3 (N - s) s FU d2 0 (by omega) (FU_ge (by omega)) d2_26 d2_27 d2_29 (Nat.le_refl _) (by rw [Nat.sub_self]; rfl) hT2
      have qs : s < spN T (isK 1) N s := by
        rw [sp_s hN' (by simp [isK]; omega)]
        exact Nat.lt_of_lt_of_le (Nat.lt_succ_self s) (sp_b (T := T) (P := isK 1) (by omega)).1
      generalize spN T (isK 1) N s = a at a4 q1 q2 q3 q4 v4 x4 y4 qs
      obtain ⟨r5, w5, a5, b5, c5, f5⟩ := x_132 (b := b) 1 6 (by rw [b4 3 (by decide)]; exact r3_3) a4 (by rw [b4 4 (by decide), a3, k1]) q1 (by omega) (Or.inl ⟨rfl, rfl⟩)
      have fr5 : FRr r r5 := ⟨fun k h2 h3 h4 => by rw [f5.1 k h2 h3 h4, b4 k h2, fr3.1 k h2 h3 h4], by rw [f5.2, c4, fr3.2]⟩
      have fd4 : FRd d d4 := ⟨fun k h7 h8 h9 h0 => by rw [z4 k h7 h8, fd2.1 k h7 h8 h9 h0], by rw [t4, fd2.2]⟩
      refine ⟨r5, d4, lN (WN T s (min (a - s) 6)), s, a, if a - s ≤ 6 then 1 else 6, ?_, ?_, ?_, hs1, fr5, fd4⟩
      · rw [e36, w4, w5]
      · rw [eg]
        unfold f_X9_nextWord
        rw [bs, v4, bs]
      · refine ⟨⟨by rw [fr5.1 1 (by decide) (by decide) (by decide)]; exact p1, by rw [fd4.1 26 (by decide) (by decide) (by decide) (by decide)]; exact p2, p3⟩, ⟨b5, by rw [z4 29 (by decide) (by decide)]; exact d2_29, hs2⟩, c5, ?_⟩
        by_cases g : a - s ≤ 6
        · rw [if_pos g]
          right; left
          refine ⟨rfl, by rw [y4, if_pos g], ⟨by rw [fr5.1 1 (by decide) (by decide) (by decide)]; exact p1, by rw [fd4.1 26 (by decide) (by decide) (by decide) (by decide)]; exact p2, p3, a5, x4, q2⟩, qs, by omega, by rw [show min (a - s) 6 = a - s by omega], fun j h1 h2 => ?_⟩
          have := q3 j h1 h2
          exact (kN_sp (T j) (hT j (by omega)).1).1.mp (by simpa [isK] using this)
        · rw [if_neg g]
          right; right; right; right; right
          exact ⟨rfl, by rw [y4, if_neg g]⟩
    · have hL : ¬ (s < N ∧ 97 ≤ T s ∧ T s ≤ 122) := fun w => k1 (hκ.trans (hk.1.mpr w.2))
      rw [if_neg hL] at hin1
      rw [show f_X9_in (byI N T s) 97 122 = some 0 from hin1, bs, if_pos rfl] at eg
      rw [if_neg (fun w => k1 ((nI_e1 (by omega)).mp w))] at e36
      by_cases k2 : κ = 2
      · have hD := hk.2.1.mp (by omega)
        rw [if_pos ⟨hN', hD⟩] at hin2
        rw [show f_X9_in (byI N T s) 48 57 = some 1 from hin2, bs, if_neg (by decide)] at eg
        rw [k2, if_pos (by decide)] at e36
        obtain ⟨r4, w4, a4, b4, c4⟩ := x_sp (b := b) (s := s) (κ := 2) p3 hT (by decide) (N - s) s FU r3 (by omega) (FU_ge (by omega)) r3_1 r3_2 r3_3 (by rw [a3, k2]) (Nat.le_refl _) (fun _ => ⟨hN', by omega⟩)
        obtain ⟨q1, q2, q3, q4⟩ := sp_b (T := T) (P := isK 2) hs2
        obtain ⟨d3, v3, x3, y3, z3⟩ := pS_e d2 30 0
        obtain ⟨d4, v4, x4, y4, n4, z4, t4⟩ := m_whl (b := b) (T := T) (s := s) p3 (N - s) s FU d3 (by omega) (FU_ge (by omega)) (by rw [y3 26 (by decide)]; exact d2_26) (by rw [y3 27 (by decide)]; exact d2_27) (by rw [y3 29 (by decide)]; exact d2_29) (Nat.le_refl _) (by rw [Nat.sub_self, x3]; rfl) (hT2.of (by rw [z3]))
        have qs : s < spN T (isK 2) N s := by
          rw [sp_s hN' (by simp [isK]; omega)]
          exact Nat.lt_of_lt_of_le (Nat.lt_succ_self s) (sp_b (T := T) (P := isK 2) (by omega)).1
        generalize spN T (isK 2) N s = a at a4 q1 q2 q3 q4 x4 y4 n4 qs
        obtain ⟨r5, w5, a5, b5, c5, f5⟩ := x_132 (b := b) 2 3 (by rw [b4 3 (by decide)]; exact r3_3) a4 (by rw [b4 4 (by decide), a3, k2]) q1 (by omega) (Or.inr ⟨rfl, rfl⟩)
        have fr5 : FRr r r5 := ⟨fun k h2 h3 h4 => by rw [f5.1 k h2 h3 h4, b4 k h2, fr3.1 k h2 h3 h4], by rw [f5.2, c4, fr3.2]⟩
        have fd4 : FRd d d4 := ⟨fun k h7 h8 h9 h0 => by rw [z4 k h7 h8 h0, y3 k h0, fd2.1 k h7 h8 h9 h0], by rw [t4, z3, fd2.2]⟩
        refine ⟨r5, d4, dw, s, a, if a - s ≤ 3 then 2 else 6, ?_, ?_, ?_, hs1, fr5, fd4⟩
        · rw [e36, w4, w5]
        · rw [eg]
          unfold f_X9_nextWhole
          rw [bs, v3, v4, bs]
        · refine ⟨⟨by rw [fr5.1 1 (by decide) (by decide) (by decide)]; exact p1, by rw [fd4.1 26 (by decide) (by decide) (by decide) (by decide)]; exact p2, p3⟩, ⟨b5, by rw [z4 29 (by decide) (by decide) (by decide), y3 29 (by decide)]; exact d2_29, hs2⟩, c5, ?_⟩
          by_cases g : a - s ≤ 3
          · rw [if_pos g]
            right; right; left
            refine ⟨rfl, by rw [y4, if_pos g], ⟨by rw [fr5.1 1 (by decide) (by decide) (by decide)]; exact p1, by rw [fd4.1 26 (by decide) (by decide) (by decide) (by decide)]; exact p2, p3, a5, x4, q2⟩, qs, by omega, by rw [n4, show min (a - s) 3 = a - s by omega], fun j h1 h2 => ?_⟩
            have := q3 j h1 h2
            exact (kN_sp (T j) (hT j (by omega)).1).2.1.mp (by simpa [isK] using this)
          · rw [if_neg g]
            right; right; right; right; right
            exact ⟨rfl, by rw [y4, if_neg g]⟩
      · have hD : ¬ (s < N ∧ 48 ≤ T s ∧ T s ≤ 57) := fun w => k2 (hκ.trans (hk.2.1.mpr w.2))
        rw [if_neg hD] at hin2
        rw [show f_X9_in (byI N T s) 48 57 = some 0 from hin2, bs, if_pos rfl, hby] at eg
        rw [if_neg (fun w => k2 ((nI_e2 (by omega)).mp w))] at e36
        have hnb : ¬ T s = 32 := fun w => hs4 hN' (by simp [isB, w])
        -- the class goes over one byte
        obtain ⟨r4, w4, a4, b4, c4⟩ := pS_e r3 2 (gS r3 2 + 1)
        have l78 : L_X4_advance_78 b FU r3 0 = some r4 := by
          have s1 : L_X4_advance_78 b FU r3 0 = b_X4_advance_78 b (L_X4_advance_78 b 11999) r3 0 := rfl
          have s2 : L_X4_advance_78 b 11999 r4 0 = b_X4_advance_78 b (L_X4_advance_78 b 11998) r4 0 := rfl
          have s3 : b_X4_advance_78 b (L_X4_advance_78 b 11998) r4 0 = some r4 := by
            unfold b_X4_advance_78
            by_cases g : gS r4 1 ≤ gS r4 2
            · rw [if_pos g]
              unfold b_X4_advance_132
              rw [if_pos rfl]
            · rw [if_neg g, if_neg (by rw [a4, b4 3 (by decide), r3_2, r3_3, nI_1]; exact fun w => absurd ((nI_eq (by omega) (by omega)).mp w) (by omega)), if_pos rfl]
              unfold b_X4_advance_132
              rw [if_pos rfl]
          rw [s1, ← s3, ← s2]
          unfold b_X4_advance_78
          rw [if_neg (by rw [r3_1, r3_2]; exact nI_ge hN' (by omega)), if_pos (by rw [r3_2, r3_3])]
          unfold b_X4_advance_119
          rw [bs, w4]
        have fr4 : FRr r r4 := ⟨fun k h2 h3 h4 => by rw [b4 k h2, fr3.1 k h2 h3 h4], by rw [c4, fr3.2]⟩
        have r4_1 : gS r4 1 = nI N := by rw [b4 1 (by decide)]; exact r3_1
        have r4_2 : gS r4 2 = nI (s + 1) := by rw [a4, r3_2, nI_1]
        have r4_3 : gS r4 3 = nI s := by rw [b4 3 (by decide)]; exact r3_3
        have r4_4 : gS r4 4 = nI κ := by rw [b4 4 (by decide)]; exact a3
        have sign : ∀ c : Nat, T s = c → c = 59 ∨ c = 44 → ∃ d', f_X9_nextSign d2 (nI (T s)) = some d' ∧ gS d' 28 = 4 ∧ gS d' 27 = nI (s + 1) ∧ gS d' 30 = nI c ∧ gS d' 29 = nI s ∧ FRd d d' := by
          intro c hc h2
          obtain ⟨d3, v3, x3, y3, z3⟩ := pS_e d2 28 4
          obtain ⟨d4, v4, x4, y4, z4⟩ := pS_e d3 30 (nI c)
          obtain ⟨d5, v5, x5, y5, z5⟩ := pS_e d4 27 (gS d4 27 + 1)
          refine ⟨d5, ?_, by rw [y5 28 (by decide), y4 28 (by decide), x3], by rw [x5, y4 27 (by decide), y3 27 (by decide), d2_27, nI_1], by rw [y5 30 (by decide), x4], by rw [y5 29 (by decide), y4 29 (by decide), y3 29 (by decide)]; exact d2_29, fun k h7 h8 h9 h0 => by rw [y5 k h7, y4 k h0, y3 k h8, fd2.1 k h7 h8 h9 h0], by rw [z5, z4, z3, fd2.2]⟩
          rw [hc]
          have body : b_X9_nextSign_12 (nI c) d2 = some d5 := by
            unfold b_X9_nextSign_12 b_X9_nextSign_17 b_X9_nextSign_28
            rw [if_neg (by decide), bs, v3, bs, v4, if_neg (by decide), bs, v5]
          unfold f_X9_nextSign
          rcases h2 with h2 | h2
          · subst h2
            rw [if_pos (by decide)]; exact body
          · subst h2
            rw [if_neg (by decide), if_pos (by decide)]; exact body
        by_cases k3 : κ = 3
        · obtain ⟨d', e1, e2, e3, e4, e5, e6⟩ := sign 59 (hk.2.2.2.2.1.mp (by omega)) (Or.inl rfl)
          refine ⟨r4, d', dw, s, s + 1, 3, by rw [e36, l78], by rw [eg, e1, bs], ?_, hs1, fr4, e6⟩
          refine ⟨⟨r4_1, by rw [e6.1 26 (by decide) (by decide) (by decide) (by decide)]; exact p2, p3⟩, ⟨r4_3, e5, hs2⟩, by rw [r4_4, k3], ?_⟩
          right; right; right; left
          exact ⟨rfl, e2, ⟨r4_1, by rw [e6.1 26 (by decide) (by decide) (by decide) (by decide)]; exact p2, p3, r4_2, e3, by omega⟩, by omega, e4⟩
        · by_cases k4 : κ = 4
          · obtain ⟨d', e1, e2, e3, e4, e5, e6⟩ := sign 44 (hk.2.2.2.1.mp (by omega)) (Or.inr rfl)
            refine ⟨r4, d', dw, s, s + 1, 4, by rw [e36, l78], by rw [eg, e1, bs], ?_, hs1, fr4, e6⟩
            refine ⟨⟨r4_1, by rw [e6.1 26 (by decide) (by decide) (by decide) (by decide)]; exact p2, p3⟩, ⟨r4_3, e5, hs2⟩, by rw [r4_4, k4], ?_⟩
            right; right; right; right; left
            exact ⟨rfl, e2, ⟨r4_1, by rw [e6.1 26 (by decide) (by decide) (by decide) (by decide)]; exact p2, p3, r4_2, e3, by omega⟩, by omega, e4⟩
          · have k6 : κ = 6 := by
              have h5 : ¬ kN (T s) = 5 := fun w => hnb (hk.2.2.1.mp w)
              omega
            obtain ⟨d3, v3, x3, y3, z3⟩ := pS_e d2 28 0
            obtain ⟨d4, v4, x4, y4, z4⟩ := pS_e d3 30 (nI (T s))
            have body : f_X9_nextSign d2 (nI (T s)) = some d4 := by
              unfold f_X9_nextSign
              rw [if_neg (show ¬ nI (T s) = 59 from fun w => k3 (hκ.trans (hk.2.2.2.2.1.mpr ((nI_eq (b := 59) (by omega) (by decide)).mp w)))), if_neg (show ¬ nI (T s) = 44 from fun w => k4 (hκ.trans (hk.2.2.2.1.mpr ((nI_eq (b := 44) (by omega) (by decide)).mp w))))]
              unfold b_X9_nextSign_17 b_X9_nextSign_28
              rw [if_pos rfl, bs, v3, bs, v4, if_pos rfl]
            have fd4 : FRd d d4 := ⟨fun k h7 h8 h9 h0 => by rw [y4 k h0, y3 k h8, fd2.1 k h7 h8 h9 h0], by rw [z4, z3, fd2.2]⟩
            refine ⟨r4, d4, dw, s, s + 1, 6, by rw [e36, l78], by rw [eg, body, bs], ?_, hs1, fr4, fd4⟩
            refine ⟨⟨r4_1, by rw [fd4.1 26 (by decide) (by decide) (by decide) (by decide)]; exact p2, p3⟩, ⟨r4_3, by rw [y4 29 (by decide), y3 29 (by decide)]; exact d2_29, hs2⟩, by rw [r4_4, k6], ?_⟩
            right; right; right; right; right
            exact ⟨rfl, by rw [y4 28 (by decide), x3]⟩
  · have hsN : s = N := by omega
    rw [if_neg hN'] at hκ
    have hby : byI N T s = -1 := if_neg hN'
    rw [if_pos hby, bs] at eg
    rw [hκ, if_neg (by decide), if_neg (by decide)] at e36
    have l78 : L_X4_advance_78 b FU r3 0 = some r3 := by
      have s1 : L_X4_advance_78 b FU r3 0 = b_X4_advance_78 b (L_X4_advance_78 b 11999) r3 0 := rfl
      rw [s1]
      unfold b_X4_advance_78
      rw [if_pos (by rw [r3_1, r3_2]; exact nI_le (by omega) (by omega))]
      unfold b_X4_advance_132
      rw [if_pos rfl]
    obtain ⟨d3, v3, x3, y3, z3⟩ := pS_e d2 28 1
    have fd3 : FRd d d3 := ⟨fun k h7 h8 h9 h0 => by rw [y3 k h8, fd2.1 k h7 h8 h9 h0], by rw [z3, fd2.2]⟩
    refine ⟨r3, d3, dw, s, N, 0, by rw [e36, l78], by rw [eg, v3], ?_, hs1, fr3, fd3⟩
    refine ⟨⟨r3_1, by rw [fd3.1 26 (by decide) (by decide) (by decide) (by decide)]; exact p2, p3⟩, ⟨r3_3, by rw [y3 29 (by decide)]; exact d2_29, hs2⟩, by rw [a3, hκ], ?_⟩
    left
    exact ⟨rfl, x3, ⟨r3_1, by rw [fd3.1 26 (by decide) (by decide) (by decide) (by decide)]; exact p2, p3, by rw [r3_2, hsN], by rw [y3 27 (by decide), d2_27, hsN], Nat.le_refl _⟩, hsN⟩
end TM
