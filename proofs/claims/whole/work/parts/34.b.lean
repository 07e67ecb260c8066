/-! (B) reading: a token is gone over -/
def gT (d : Pic) (dw : Int64) : Option (Pic × Int64) := (some (pS d 29 (gS d 27))).bind fun d_ad2 => (f_X9_byteAt d_ad2 (gS d_ad2 27)).bind fun u3 => if u3 = (-1) then (some (pS d_ad2 28 1)).bind fun d_ad9 => some (d_ad9, dw) else (f_X9_in u3 97 122).bind fun u4 => if u4 = 0 then (f_X9_in u3 48 57).bind fun u5 => if u5 = 0 then (f_X9_nextSign d_ad2 u3).bind fun u6 => some (u6, dw) else (f_X9_nextWhole d_ad2).bind fun u7 => some (u7, dw) else (f_X9_nextWord d_ad2 dw).bind fun u8 => some (u8.1, u8.2)
def isB : Nat → Bool := fun c => decide (c = 32)
def isK (κ : Nat) : Nat → Bool := fun c => decide (kN c = κ)
def nV (T : Nat → Nat) (s : Nat) : Nat → Nat
  | 0 => 0
  | n + 1 => 10 * nV T s n + (T (s + n) - 48)
theorem nV_b {T : Nat → Nat} {s : Nat} : ∀ n, (∀ j, j < n → 48 ≤ T (s + j) ∧ T (s + j) ≤ 57) → nV T s n < 10 ^ n
  | 0, _ => Nat.zero_lt_one
  | n + 1, h => by
    have h1 := nV_b n (fun j hj => h j (by omega))
    have h2 := h n (by omega)
    show 10 * nV T s n + (T (s + n) - 48) < 10 ^ (n + 1)
    rw [Nat.pow_succ]
    omega
theorem nV_b3 {T : Nat → Nat} {s n : Nat} (hn : n ≤ 3) (h : ∀ j, j < n → 48 ≤ T (s + j) ∧ T (s + j) ≤ 57) : nV T s n < 1000 :=
  Nat.lt_of_lt_of_le (nV_b n h) (show 10 ^ n ≤ 10 ^ 3 from Nat.pow_le_pow_right (by decide) hn)
section TL
variable {r b d : Pic} {T : Nat → Nat} {N i s q κ : Nat} {dw : Int64}
theorem by_32 (hT : TPE b d T) (hN : N ≤ 900) : byI N T q = 32 ↔ q < N ∧ T q = 32 := by
  unfold byI
  by_cases g : q < N
  · rw [if_pos g]
    have := (hT q (by omega)).1
    exact ⟨fun w => ⟨g, (nI_eq (b := 32) (by omega) (by decide)).mp w⟩, fun w => by rw [w.2]; rfl⟩
  · rw [if_neg g]
    exact ⟨fun w => absurd w (by decide), fun w => absurd w.1 g⟩
theorem x_sk (hN : N ≤ 900) (hT : TPE b d T) : ∀ (k q n : Nat) (r : Pic), q + k = N → k < n → gS r 1 = nI N → gS r 2 = nI q → ∃ r1, L_X4_advance_0 b n r = b_X4_advance_36 b r1 ∧ gS r1 2 = nI (spN T isB N q) ∧ (∀ k, k ≠ 2 → gS r1 k = gS r k) ∧ r1.2 = r.2 := by
  intro k
  induction k with
  | zero =>
    intro q n r h1 h2 g1 g2
    cases n with
    | zero => omega
    | succ n =>
      have : q = N := by omega
      subst this
      refine ⟨r, ?_, by rw [sp_e]; exact g2, fun _ _ => rfl, rfl⟩
      show b_X4_advance_0 b _ r = _
      unfold b_X4_advance_0
      rw [g1, g2, if_pos (nI_le (Nat.le_refl _) (by omega))]
  | succ k ih =>
    intro q n r h1 h2 g1 g2
    cases n with
    | zero => omega
    | succ n =>
      have e : L_X4_advance_0 b (n + 1) r = b_X4_advance_0 b (L_X4_advance_0 b n) r := rfl
      have hb := (hT q (by omega)).1
      have ek : f_X4_kindAt r b (gS r 2) = some (nI (kN (T q))) := by rw [g2, x_ka g1 hN hT (by omega), if_pos (by omega)]
      have hk := kN_sp (T q) hb
      by_cases g : T q = 32
      · obtain ⟨r1, w, a1, b1, c1⟩ := pS_e r 2 (gS r 2 + 1)
        obtain ⟨r2, w2, a2, b2, c2⟩ := ih (q + 1) n r1 (by omega) (by omega) (by rw [b1 1 (by decide)]; exact g1) (by rw [a1, g2, nI_1])
        refine ⟨r2, ?_, ?_, fun k hk => (b2 k hk).trans (b1 k hk), c2.trans c1⟩
        · rw [e]
          unfold b_X4_advance_0
          rw [ek, bs, if_neg (by rw [g1, g2]; exact nI_ge (by omega) (by omega)), hk.2.2.1.mpr g, if_pos (by decide), bs, w]
          exact w2
        · rw [sp_s (by omega) (by simp [isB, g])]; exact a2
      · refine ⟨r, ?_, ?_, fun _ _ => rfl, rfl⟩
        · rw [e]
          unfold b_X4_advance_0
          rw [ek, bs, if_neg (by rw [g1, g2]; exact nI_ge (by omega) (by omega)), if_neg (show ¬ nI (kN (T q)) = 5 from fun w => g (hk.2.2.1.mp ((nI_eq (b := 5) (by omega) (by decide)).mp w)))]
        · rw [sp_n (by omega) (by simp [isB, g])]; exact g2
theorem m_sk (hN : N ≤ 900) : ∀ (k q n : Nat) (d : Pic), q + k = N → k < n → gS d 26 = nI N → gS d 27 = nI q → TPE b d T → ∃ d1, L_X9_goOn_8 n d dw = gT d1 dw ∧ gS d1 27 = nI (spN T isB N q) ∧ (∀ k, k ≠ 27 → gS d1 k = gS d k) ∧ d1.2 = d.2 := by
  intro k
  induction k with
  | zero =>
    intro q n d h1 h2 g1 g2 hT
    cases n with
    | zero => omega
    | succ n =>
      have : q = N := by omega
      subst this
      refine ⟨d, ?_, by rw [sp_e]; exact g2, fun _ _ => rfl, rfl⟩
      show b_X9_goOn_8 _ d dw = _
      unfold b_X9_goOn_8
      rw [g2, m_by g1 hN hT (by omega), bs, if_neg (fun w => absurd ((by_32 hT hN).mp w).1 (by omega)), ← g2]
      rfl
  | succ k ih =>
    intro q n d h1 h2 g1 g2 hT
    cases n with
    | zero => omega
    | succ n =>
      have e : L_X9_goOn_8 (n + 1) d dw = b_X9_goOn_8 (L_X9_goOn_8 n) d dw := rfl
      by_cases g : T q = 32
      · obtain ⟨d1, w, a1, b1, c1⟩ := pS_e d 27 (nI q + 1)
        obtain ⟨d2, w2, a2, b2, c2⟩ := ih (q + 1) n d1 (by omega) (by omega) (by rw [b1 26 (by decide)]; exact g1) (by rw [a1, nI_1]) (hT.of (by rw [c1]))
        refine ⟨d2, ?_, ?_, fun k hk => (b2 k hk).trans (b1 k hk), c2.trans c1⟩
        · rw [e]
          unfold b_X9_goOn_8
          rw [g2, m_by g1 hN hT (by omega), bs, if_pos ((by_32 hT hN).mpr ⟨by omega, g⟩), bs, w]
          exact w2
        · rw [sp_s (by omega) (by simp [isB, g])]; exact a2
      · refine ⟨d, ?_, ?_, fun _ _ => rfl, rfl⟩
        · rw [e]
          unfold b_X9_goOn_8
          rw [g2, m_by g1 hN hT (by omega), bs, if_neg (fun w => g ((by_32 hT hN).mp w).2), ← g2]
          rfl
        · rw [sp_n (by omega) (by simp [isB, g])]; exact g2
theorem x_sp (hN : N ≤ 900) (hT : TPE b d T) (hκ : κ < 7) : ∀ (k q n : Nat) (r : Pic), q + k = N → k < n → gS r 1 = nI N → gS r 2 = nI q → gS r 3 = nI s → gS r 4 = nI κ → s ≤ q → (q = s → q < N ∧ kN (T q) = κ) → ∃ r1, L_X4_advance_78 b n r 1 = b_X4_advance_132 b r1 1 ∧ gS r1 2 = nI (spN T (isK κ) N q) ∧ (∀ k, k ≠ 2 → gS r1 k = gS r k) ∧ r1.2 = r.2 := by
  intro k
  induction k with
  | zero =>
    intro q n r h1 h2 g1 g2 g3 g4 hs hq
    cases n with
    | zero => omega
    | succ n =>
      have : q = N := by omega
      subst this
      refine ⟨r, ?_, by rw [sp_e]; exact g2, fun _ _ => rfl, rfl⟩
      show b_X4_advance_78 b _ r 1 = _
      unfold b_X4_advance_78
      rw [if_pos (by rw [g1, g2]; exact nI_le (Nat.le_refl _) (by omega))]
  | succ k ih =>
    intro q n r h1 h2 g1 g2 g3 g4 hs hq
    cases n with
    | zero => omega
    | succ n =>
      have e : L_X4_advance_78 b (n + 1) r 1 = b_X4_advance_78 b (L_X4_advance_78 b n) r 1 := rfl
      have hb := (hT q (by omega)).1
      have ek : f_X4_kindAt r b (gS r 2) = some (nI (kN (T q))) := by rw [g2, x_ka g1 hN hT (by omega), if_pos (by omega)]
      have hk := kN_sp (T q) hb
      have hge : ¬ gS r 1 ≤ gS r 2 := by rw [g1, g2]; exact nI_ge (by omega) (by omega)
      by_cases g : kN (T q) = κ
      · obtain ⟨r1, w, a1, b1, c1⟩ := pS_e r 2 (gS r 2 + 1)
        obtain ⟨r2, w2, a2, b2, c2⟩ := ih (q + 1) n r1 (by omega) (by omega) (by rw [b1 1 (by decide)]; exact g1) (by rw [a1, g2, nI_1]) (by rw [b1 3 (by decide)]; exact g3) (by rw [b1 4 (by decide)]; exact g4) (by omega) (fun w => by omega)
        refine ⟨r2, ?_, ?_, fun k hk => (b2 k hk).trans (b1 k hk), c2.trans c1⟩
        · rw [e, ← w2]
          unfold b_X4_advance_78
          rw [if_neg hge]
          by_cases g5 : gS r 2 = gS r 3
          · rw [if_pos g5]
            unfold b_X4_advance_119
            rw [bs, w]
          · rw [if_neg g5, if_neg (by decide), ek, bs, g4, g, if_pos rfl]
            unfold b_X4_advance_119
            rw [bs, w]
        · rw [sp_s (by omega) (by simp [isK, g])]; exact a2
      · have hne : ¬ q = s := fun w => g (hq w).2
        refine ⟨r, ?_, ?_, fun _ _ => rfl, rfl⟩
        · rw [e]
          unfold b_X4_advance_78
          rw [if_neg hge, if_neg (by rw [g2, g3]; exact fun w => hne ((nI_eq (by omega) (by omega)).mp w)), if_neg (by decide), ek, bs, g4, if_neg (fun w => g ((nI_eq (by omega) (by omega)).mp w))]
        · rw [sp_n (by omega) (by simp [isK, g])]; exact g2
theorem m_wdl (hN : N ≤ 900) : ∀ (k q n : Nat) (d : Pic) (dw : Int64), q + k = N → k < n → gS d 26 = nI N → gS d 27 = nI q → gS d 29 = nI s → s ≤ q → dw = lN (WN T s (min (q - s) 6)) → TPE b d T → ∃ d', L_X9_nextWord_5 n d dw = some (d', lN (WN T s (min (spN T (isK 1) N q - s) 6))) ∧ gS d' 27 = nI (spN T (isK 1) N q) ∧ gS d' 28 = (if spN T (isK 1) N q - s ≤ 6 then 2 else 0) ∧ (∀ k, k ≠ 27 → k ≠ 28 → gS d' k = gS d k) ∧ d'.2 = d.2 := by
  have fin : ∀ (q n : Nat) (d : Pic) (dw : Int64), q ≤ N → ¬ (q < N ∧ 97 ≤ T q ∧ T q ≤ 122) → gS d 26 = nI N → gS d 27 = nI q → gS d 29 = nI s → s ≤ q → dw = lN (WN T s (min (q - s) 6)) → TPE b d T → ∃ d', L_X9_nextWord_5 (n + 1) d dw = some (d', lN (WN T s (min (q - s) 6))) ∧ gS d' 27 = nI q ∧ gS d' 28 = (if q - s ≤ 6 then 2 else 0) ∧ (∀ k, k ≠ 27 → k ≠ 28 → gS d' k = gS d k) ∧ d'.2 = d.2 := by
    intro q n d dw hq hn g1 g2 g3 hs hw hT
    have hin := m_inb (i := q) hT hN (lo := 97) (hi := 122) (by decide) (by decide)
    rw [if_neg hn] at hin
    obtain ⟨d1, w, a1, b1, c1⟩ := pS_e d 28 (if q - s ≤ 6 then (2 : Int32) else 0)
    refine ⟨d1, ?_, (b1 27 (by decide)).trans g2, a1, fun k _ hk => b1 k hk, c1⟩
    show b_X9_nextWord_5 _ d dw = _
    unfold b_X9_nextWord_5 b_X9_nextWord_91
    rw [g2, g3, m_by g1 hN hT (by omega), bs, show f_X9_in (byI N T q) 97 122 = some 0 from hin, bs, if_pos rfl, nI_sub hs]
    by_cases g : q - s ≤ 6
    · rw [if_pos (show nI (q - s) ≤ 6 from nI_le (b := 6) g (by decide)), bs, ← w, if_pos g, hw]
    · rw [if_neg (show ¬ nI (q - s) ≤ 6 from nI_ge (a := 6) (by omega) (by omega)), bs, ← w, if_neg g, hw]
  intro k
  induction k with
  | zero =>
    intro q n d dw h1 h2 g1 g2 g3 hs hw hT
    cases n with
    | zero => omega
    | succ n =>
      have : q = N := by omega
      subst this
      rw [sp_e]
      exact fin q n d dw (Nat.le_refl _) (fun w => by omega) g1 g2 g3 hs hw hT
  | succ k ih =>
    intro q n d dw h1 h2 g1 g2 g3 hs hw hT
    cases n with
    | zero => omega
    | succ n =>
      have hb := (hT q (by omega)).1
      have hk := kN_sp (T q) hb
      by_cases g : kN (T q) = 1
      · have hin := m_inb (i := q) hT hN (lo := 97) (hi := 122) (by decide) (by decide)
        rw [if_pos ⟨by omega, hk.1.mp g⟩] at hin
        obtain ⟨d1, w, a1, b1, c1⟩ := pS_e d 27 (nI q + 1)
        have hw' : ∃ dw', L_X9_nextWord_5 (n + 1) d dw = L_X9_nextWord_5 n d1 dw' ∧ dw' = lN (WN T s (min (q + 1 - s) 6)) := by
          by_cases g6 : 6 ≤ q - s
          · refine ⟨dw, ?_, by rw [hw, show min (q - s) 6 = 6 by omega, show min (q + 1 - s) 6 = 6 by omega]⟩
            show b_X9_nextWord_5 _ d dw = _
            unfold b_X9_nextWord_5 b_X9_nextWord_58
            rw [g2, g3, m_by g1 hN hT (by omega), bs, show f_X9_in (byI N T q) 97 122 = some 1 from hin, bs, if_neg (by decide), nI_sub hs, if_pos (show 6 ≤ nI (q - s) from nI_le (a := 6) g6 (by omega)), bs, w]
          · refine ⟨lN (WN T s (q - s) * 256 + T q), ?_, ?_⟩
            · show b_X9_nextWord_5 _ d dw = _
              unfold b_X9_nextWord_5 b_X9_nextWord_58
              rw [g2, g3, m_by g1 hN hT (by omega), bs, show f_X9_in (byI N T q) 97 122 = some 1 from hin, bs, if_neg (by decide), nI_sub hs, if_neg (show ¬ 6 ≤ nI (q - s) from nI_ge (b := 6) (by omega) (by decide)), bs, bs, bs, w, hw, show min (q - s) 6 = q - s by omega, show byI N T q = nI (T q) from if_pos (by omega), w_st (WN_b5 (by omega) (fun j hj => (hT _ (by omega)).1)) hb]
            · rw [show min (q + 1 - s) 6 = (q - s) + 1 by omega]
              show lN (WN T s (q - s) * 256 + T q) = lN (WN T s (q - s) * 256 + T (s + (q - s)))
              rw [show s + (q - s) = q by omega]
        obtain ⟨dw', e1, e2⟩ := hw'
        obtain ⟨d2, w2, a2, b2, c2, f2⟩ := ih (q + 1) n d1 dw' (by omega) (by omega) (by rw [b1 26 (by decide)]; exact g1) (by rw [a1, nI_1]) (by rw [b1 29 (by decide)]; exact g3) (by omega) e2 (hT.of (by rw [c1]))
        rw [sp_s (by omega) (by simp [isK, g])]
        exact ⟨d2, e1.trans w2, a2, b2, fun k h27 h28 => (c2 k h27 h28).trans (b1 k h27), f2.trans c1⟩
      · rw [sp_n (by omega) (by simp [isK, g])]
        exact fin q n d dw (by omega) (fun w => g (hk.1.mpr w.2)) g1 g2 g3 hs hw hT
theorem m_whl (hN : N ≤ 900) : ∀ (k q n : Nat) (d : Pic), q + k = N → k < n → gS d 26 = nI N → gS d 27 = nI q → gS d 29 = nI s → s ≤ q → gS d 30 = nI (nV T s (min (q - s) 3)) → TPE b d T → ∃ d', L_X9_nextWhole_5 n d = some d' ∧ gS d' 27 = nI (spN T (isK 2) N q) ∧ gS d' 28 = (if spN T (isK 2) N q - s ≤ 3 then 3 else 0) ∧ gS d' 30 = nI (nV T s (min (spN T (isK 2) N q - s) 3)) ∧ (∀ k, k ≠ 27 → k ≠ 28 → k ≠ 30 → gS d' k = gS d k) ∧ d'.2 = d.2 := by
  have fin : ∀ (q n : Nat) (d : Pic), q ≤ N → ¬ (q < N ∧ 48 ≤ T q ∧ T q ≤ 57) → gS d 26 = nI N → gS d 27 = nI q → gS d 29 = nI s → s ≤ q → gS d 30 = nI (nV T s (min (q - s) 3)) → TPE b d T → ∃ d', L_X9_nextWhole_5 (n + 1) d = some d' ∧ gS d' 27 = nI q ∧ gS d' 28 = (if q - s ≤ 3 then 3 else 0) ∧ gS d' 30 = nI (nV T s (min (q - s) 3)) ∧ (∀ k, k ≠ 27 → k ≠ 28 → k ≠ 30 → gS d' k = gS d k) ∧ d'.2 = d.2 := by
    intro q n d hq hn g1 g2 g3 hs hw hT
    have hin := m_inb (i := q) hT hN (lo := 48) (hi := 57) (by decide) (by decide)
    rw [if_neg hn] at hin
    obtain ⟨d1, w, a1, b1, c1⟩ := pS_e d 28 (if q - s ≤ 3 then (3 : Int32) else 0)
    refine ⟨d1, ?_, (b1 27 (by decide)).trans g2, a1, (b1 30 (by decide)).trans hw, fun k _ hk _ => b1 k hk, c1⟩
    show b_X9_nextWhole_5 _ d = _
    unfold b_X9_nextWhole_5 b_X9_nextWhole_91
    rw [g2, g3, m_by g1 hN hT (by omega), bs, show f_X9_in (byI N T q) 48 57 = some 0 from hin, bs, if_pos rfl, nI_sub hs]
    by_cases g : q - s ≤ 3
    · rw [if_pos (show nI (q - s) ≤ 3 from nI_le (b := 3) g (by decide)), bs, ← w, if_pos g]
    · rw [if_neg (show ¬ nI (q - s) ≤ 3 from nI_ge (a := 3) (by omega) (by omega)), bs, ← w, if_neg g]
  intro k
  induction k with
  | zero =>
    intro q n d h1 h2 g1 g2 g3 hs hw hT
    cases n with
    | zero => omega
    | succ n =>
      have : q = N := by omega
      subst this
      rw [sp_e]
      exact fin q n d (Nat.le_refl _) (fun w => by omega) g1 g2 g3 hs hw hT
  | succ k ih =>
    intro q n d h1 h2 g1 g2 g3 hs hw hT
    cases n with
    | zero => omega
    | succ n =>
      have hb := (hT q (by omega)).1
      have hk := kN_sp (T q) hb
      by_cases g : kN (T q) = 2
      · have hin := m_inb (i := q) hT hN (lo := 48) (hi := 57) (by decide) (by decide)
        have hd := hk.2.1.mp g
        rw [if_pos ⟨by omega, hd⟩] at hin
        have hw' : ∃ d1, L_X9_nextWhole_5 (n + 1) d = L_X9_nextWhole_5 n d1 ∧ gS d1 27 = nI (q + 1) ∧ gS d1 30 = nI (nV T s (min (q + 1 - s) 3)) ∧ (∀ k, k ≠ 27 → k ≠ 30 → gS d1 k = gS d k) ∧ d1.2 = d.2 := by
          by_cases g6 : 3 ≤ q - s
          · obtain ⟨d1, w, a1, b1, c1⟩ := pS_e d 27 (gS d 27 + 1)
            refine ⟨d1, ?_, by rw [a1, g2, nI_1], by rw [b1 30 (by decide), hw, show min (q - s) 3 = 3 by omega, show min (q + 1 - s) 3 = 3 by omega], fun k hk _ => b1 k hk, c1⟩
            show b_X9_nextWhole_5 _ d = _
            unfold b_X9_nextWhole_5 b_X9_nextWhole_59
            rw [w, g2, g3, m_by g1 hN hT (by omega), bs, show f_X9_in (byI N T q) 48 57 = some 1 from hin, bs, if_neg (by decide), nI_sub hs, if_pos (show 3 ≤ nI (q - s) from nI_le (a := 3) g6 (by omega)), bs]
          · obtain ⟨d1, w, a1, b1, c1⟩ := pS_e d 30 (10 * gS d 30 + nI (T q) - 48)
            obtain ⟨d2, w2, a2, b2, c2⟩ := pS_e d1 27 (gS d1 27 + 1)
            refine ⟨d2, ?_, by rw [a2, b1 27 (by decide), g2, nI_1], ?_, fun k h27 h30 => (b2 k h27).trans (b1 k h30), c2.trans c1⟩
            · show b_X9_nextWhole_5 _ d = _
              unfold b_X9_nextWhole_5 b_X9_nextWhole_59
              rw [g2, g3, m_by g1 hN hT (by omega), bs, show f_X9_in (byI N T q) 48 57 = some 1 from hin, bs, if_neg (by decide), nI_sub hs, if_neg (show ¬ 3 ≤ nI (q - s) from nI_ge (b := 3) (by omega) (by decide)), bs, bs, bs, show byI N T q = nI (T q) from if_pos (by omega), w, w2]
            · rw [b2 30 (by decide), a1, hw, show min (q - s) 3 = q - s by omega, show min (q + 1 - s) 3 = (q - s) + 1 by omega, show (10 : Int32) = nI 10 from rfl, nI_mul, nI_add, show (48 : Int32) = nI 48 from rfl, nI_sub (by omega)]
              show nI (10 * nV T s (q - s) + T q - 48) = nI (10 * nV T s (q - s) + (T (s + (q - s)) - 48))
              rw [show s + (q - s) = q by omega]
              congr 1
              omega
        obtain ⟨d1, e1, a1, n1, b1, c1⟩ := hw'
        obtain ⟨d2, w2, a2, b2, n2, c2, f2⟩ := ih (q + 1) n d1 (by omega) (by omega) (by rw [b1 26 (by decide) (by decide)]; exact g1) a1 (by rw [b1 29 (by decide) (by decide)]; exact g3) (by omega) n1 (hT.of (by rw [c1]))
        rw [sp_s (by omega) (by simp [isK, g])]
        exact ⟨d2, e1.trans w2, a2, b2, n2, fun k h27 h28 h30 => (c2 k h27 h28 h30).trans (b1 k h27 h30), f2.trans c1⟩
      · rw [sp_n (by omega) (by simp [isK, g])]
        exact fin q n d (by omega) (fun w => g (hk.2.1.mpr w.2)) g1 g2 g3 hs hw hT
end TL
