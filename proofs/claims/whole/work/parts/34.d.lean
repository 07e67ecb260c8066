/-! (B) reading: words, wholes, faults -/
theorem pS_self {p : Pic} {k : Nat} {v : Int32} (h : gS p k = v) : pS p k v = p := by
  have : va_up p.1 k v = p.1 := by
    funext j
    by_cases g : j = k
    · subst g; rw [vu_s]; exact h.symm
    · exact vu_n g
  show (va_up p.1 k v, p.2) = p
  rw [this]
def cN (w j : Nat) : Nat := ((sByt.getD w []).getD j 0).toNatClampNeg
theorem wd_ok : ∀ w, w < 9 → (1 ≤ sLen.getD w 0 ∧ sLen.getD w 0 ≤ 6) ∧ ∀ j, j < sLen.getD w 0 → (sByt.getD w []).getD j 0 = nI (cN w j) ∧ 97 ≤ cN w j ∧ cN w j ≤ 122 := by decide +kernel
theorem ch_n {w j : Nat} (hw : w < 9) (hj : j < sLen.getD w 0) : chS w (nI j) = some (nI (cN w j)) := by
  have h := wd_ok w hw
  unfold chS
  rw [nI_clamp (by omega), if_neg (by
    rintro (g | g)
    · exact nI_pos (by omega) g
    · omega), (h.2 j hj).1]
def FLd (d : Pic) : Prop := gS d 28 = 0 ∧ ∃ f, gS d 31 = nI f ∧ 0 < f ∧ f < 7
def FLT (r d : Pic) : Prop := FLd d ∧ gS r 6 = gS d 31 ∧ gS r 7 = gS d 29
/-- what reading leaves alone -/
def FDR (d d' : Pic) : Prop := (∀ k, k < 7 ∨ (11 < k ∧ k < 27) ∨ 31 < k → gS d' k = gS d k) ∧ ∀ k, k < 15 ∨ 18 < k → d'.2 k = d.2 k
theorem FDR.rf {d : Pic} : FDR d d := ⟨fun _ _ => rfl, fun _ _ => rfl⟩
theorem FDR.tr {a b c : Pic} (h1 : FDR a b) (h2 : FDR b c) : FDR a c := ⟨fun k hk => (h2.1 k hk).trans (h1.1 k hk), fun k hk => (h2.2 k hk).trans (h1.2 k hk)⟩
theorem FRd.fr {d d' : Pic} (h : FRd d d') : FDR d d' := ⟨fun k hk => h.1 k (by omega) (by omega) (by omega) (by omega), fun k _ => by rw [h.2]⟩
section WD
variable {r b d : Pic} {T : Nat → Nat} {N i s q κ a k w : Nat} {dw : Int64}
theorem m_word (hw : w < 9) : f_X9_isWord d dw w = some (if gS d 28 = 2 then if dw = lN (WN (cN w) 0 (sLen.getD w 0)) then 1 else 0 else 0) := by
  have ok := wd_ok w hw
  have key : ∀ (m j n : Nat), j + m = sLen.getD w 0 → m < n → L_X9_isWord_5 d dw w n (lN (WN (cN w) 0 j)) (nI j) = some (if gS d 28 = 2 then if dw = lN (WN (cN w) 0 (sLen.getD w 0)) then 1 else 0 else 0) := by
    intro m
    induction m with
    | zero =>
      intro j n h1 h2
      cases n with
      | zero => omega
      | succ n =>
        have e : j = sLen.getD w 0 := by omega
        rw [← e]
        show b_X9_isWord_5 d dw w _ _ _ = _
        unfold b_X9_isWord_5 lnS
        rw [← e, if_pos (nI_le (Nat.le_refl _) (by omega))]
        by_cases g : gS d 28 = 2
        · rw [if_pos g, if_pos g]
          by_cases g2 : dw = lN (WN (cN w) 0 j)
          · rw [if_pos g2, if_pos ((lg_cmp_eq _ _).mpr g2)]
          · rw [if_neg g2, if_neg (fun x => g2 ((lg_cmp_eq _ _).mp x))]
        · rw [if_neg g, if_neg g]
    | succ m ih =>
      intro j n h1 h2
      cases n with
      | zero => omega
      | succ n =>
        have hj : j < sLen.getD w 0 := by omega
        have hc := ok.2 j hj
        show b_X9_isWord_5 d dw w _ _ _ = _
        unfold b_X9_isWord_5
        rw [if_neg (show ¬ lnS w ≤ nI j from nI_ge hj (by omega)), ch_n hw hj, bs, w_st (WN_b5 (by omega) (fun i hi => by have := ok.2 (0 + i) (by omega); omega)) (by omega), nI_1]
        have := ih (j + 1) n (by omega) (by omega)
        rw [show WN (cN w) 0 (j + 1) = WN (cN w) 0 j * 256 + cN w j by show WN (cN w) 0 j * 256 + cN w (0 + j) = _; rw [Nat.zero_add]] at this
        exact this
  exact key (sLen.getD w 0) 0 FU (by omega) (FU_ge (by omega))
theorem x_by {j : Nat} (hT : TPE b d T) (hj : j < 900) : f_X4_byteAt r b (nI j) = some (nI (T j)) := by
  unfold f_X4_byteAt
  rw [if_neg (nI_pos (by omega)), if_neg (show ¬ (900 : Int32) ≤ nI j from nI_ge (b := 900) hj (by decide)), rA_n hj (by decide), bs, (hT j hj).2.1]
theorem x_w1 (hT : TPE b d T) (hw : w < 9) (h3 : gS r 3 = nI s) (hs : s + sLen.getD w 0 ≤ 900) (he : ∀ j, j < sLen.getD w 0 → T (s + j) = cN w j) : ∀ (m j n : Nat), j + m = sLen.getD w 0 → m < n → L_X4_isWord_28 r b w n (nI j) = some 1 := by
  intro m
  induction m with
  | zero =>
    intro j n h1 h2
    cases n with
    | zero => omega
    | succ n =>
      have e : j = sLen.getD w 0 := by omega
      show b_X4_isWord_28 r b w _ _ = _
      unfold b_X4_isWord_28 lnS
      rw [← e, if_pos (nI_le (Nat.le_refl _) (by omega))]
  | succ m ih =>
    intro j n h1 h2
    cases n with
    | zero => omega
    | succ n =>
      have hj : j < sLen.getD w 0 := by omega
      have := wd_ok w hw
      show b_X4_isWord_28 r b w _ _ = _
      unfold b_X4_isWord_28
      rw [if_neg (show ¬ lnS w ≤ nI j from nI_ge hj (by omega)), h3, nI_add, x_by hT (by omega), bs, ch_n hw hj, bs, he j hj, if_pos rfl, nI_1]
      exact ih (j + 1) n (by omega) (by omega)
theorem x_w0 (hT : TPE b d T) (hw : w < 9) (h3 : gS r 3 = nI s) (hs : s + sLen.getD w 0 ≤ 900) : ∀ (m j n : Nat), j + m = sLen.getD w 0 → m < n → (∃ i, j ≤ i ∧ i < sLen.getD w 0 ∧ T (s + i) ≠ cN w i) → L_X4_isWord_28 r b w n (nI j) = some 0 := by
  intro m
  induction m with
  | zero =>
    intro j n h1 h2 ⟨i, h⟩
    omega
  | succ m ih =>
    intro j n h1 h2 ⟨i, i1, i2, i3⟩
    cases n with
    | zero => omega
    | succ n =>
      have hj : j < sLen.getD w 0 := by omega
      have := wd_ok w hw
      have hc := this.2 j hj
      have hb := (hT (s + j) (by omega)).1
      show b_X4_isWord_28 r b w _ _ = _
      unfold b_X4_isWord_28
      rw [if_neg (show ¬ lnS w ≤ nI j from nI_ge hj (by omega)), h3, nI_add, x_by hT (by omega), bs, ch_n hw hj, bs]
      by_cases g : T (s + j) = cN w j
      · rw [g, if_pos rfl, nI_1]
        exact ih (j + 1) n (by omega) (by omega) ⟨i, by
          by_cases e : i = j
          · subst e; exact absurd g i3
          · omega, i2, i3⟩
      · rw [if_neg (fun x => g ((nI_eq (by omega) (by omega)).mp x))]
theorem both_wd (hK : TKR N T r d dw s a k) (hT : TPE b d T) (hw : w < 9) : ∃ v : Int32, f_X4_isWord r b w = some v ∧ f_X9_isWord d dw w = some v ∧ (v = 0 ∨ (v = 1 ∧ k = 1)) := by
  obtain ⟨⟨p1, p2, p3⟩, ⟨p4, p5, p6⟩, p7, p8⟩ := hK
  have ok := wd_ok w hw
  rw [m_word hw]
  by_cases k1 : k = 1
  · have hc : gS d 28 = 2 ∧ PSR N r d a ∧ s < a ∧ a ≤ s + 6 ∧ dw = lN (WN T s (a - s)) ∧ ∀ j, s ≤ j → j < a → 97 ≤ T j ∧ T j ≤ 122 := by
      rcases p8 with h | h | h | h | h | h
      · omega
      · exact h.2
      · omega
      · omega
      · omega
      · omega
    obtain ⟨q1, q2, q3, q4, q5, q6⟩ := hc
    have ha : a ≤ N := q2.2.2.2.2.2
    rw [if_pos q1]
    unfold f_X4_isWord
    rw [p7, k1, if_pos (by decide), q2.2.2.2.1, p4, nI_sub (by omega)]
    by_cases g : a - s = sLen.getD w 0
    · rw [if_pos (show nI (a - s) = lnS w by rw [g]; rfl)]
      by_cases ge : ∀ j, j < sLen.getD w 0 → T (s + j) = cN w j
      · refine ⟨1, x_w1 hT hw p4 (by omega) ge (sLen.getD w 0) 0 FU (by omega) (FU_ge (by omega)), ?_, Or.inr ⟨rfl, rfl⟩⟩
        have hcg : ∀ n, n ≤ sLen.getD w 0 → WN T s n = WN (cN w) 0 n := by
          intro n
          induction n with
          | zero => intro _; rfl
          | succ n ih =>
            intro hn
            show WN T s n * 256 + T (s + n) = WN (cN w) 0 n * 256 + cN w (0 + n)
            rw [ih (by omega), ge n (by omega), Nat.zero_add]
        rw [q5, g, hcg _ (Nat.le_refl _), if_pos rfl]
      · have gx : ∃ i, 0 ≤ i ∧ i < sLen.getD w 0 ∧ T (s + i) ≠ cN w i := by
          apply Classical.byContradiction
          intro hx
          exact ge (fun j hj => Classical.byContradiction (fun hy => hx ⟨j, Nat.zero_le _, hj, hy⟩))
        refine ⟨0, x_w0 hT hw p4 (by omega) (sLen.getD w 0) 0 FU (by omega) (FU_ge (by omega)) gx, ?_, Or.inl rfl⟩
        rw [if_neg]
        intro hx
        rw [q5] at hx
        have h48 : (2 : Nat) ^ 48 < 2 ^ 64 := by decide
        have := lN_inj (Nat.lt_trans (WN_b6 (by omega) (fun j hj => by have := q6 (s + j) (by omega) (by omega); omega)) h48) (Nat.lt_trans (WN_b6 ok.1.2 (fun j hj => by have := ok.2 (0 + j) (by omega); omega)) h48) hx
        obtain ⟨e1, e2⟩ := WN_inj _ _ (fun j hj => by have := q6 (s + j) (by omega) (by omega); omega) (fun j hj => by have := ok.2 (0 + j) (by omega); omega) this
        exact ge (fun j hj => by have := e2 j (by omega); rwa [Nat.zero_add] at this)
    · rw [if_neg (show ¬ nI (a - s) = lnS w from fun x => g ((nI_eq (by omega) (by omega)).mp x))]
      refine ⟨0, rfl, ?_, Or.inl rfl⟩
      rw [if_neg]
      intro hx
      rw [q5] at hx
      have h48 : (2 : Nat) ^ 48 < 2 ^ 64 := by decide
      have := lN_inj (Nat.lt_trans (WN_b6 (by omega) (fun j hj => by have := q6 (s + j) (by omega) (by omega); omega)) h48) (Nat.lt_trans (WN_b6 ok.1.2 (fun j hj => by have := ok.2 (0 + j) (by omega); omega)) h48) hx
      obtain ⟨e1, e2⟩ := WN_inj _ _ (fun j hj => by have := q6 (s + j) (by omega) (by omega); omega) (fun j hj => by have := ok.2 (0 + j) (by omega); omega) this
      exact g e1
  · have hk : k < 7 := by omega
    have h28 : ¬ gS d 28 = 2 := by
      rcases p8 with h | h | h | h | h | h
      · rw [h.2.1]; decide
      · exact absurd h.1 k1
      · rw [h.2.1]; decide
      · rw [h.2.1]; decide
      · rw [h.2.1]; decide
      · rw [h.2]; decide
    rw [if_neg h28]
    unfold f_X4_isWord
    rw [p7, if_neg (fun x => k1 ((nI_e1 (by omega)).mp x))]
    exact ⟨0, rfl, rfl, Or.inl rfl⟩
/-- both tell a fault here -/
theorem both_fail {c : Nat} (hK : TKR N T r d dw s a k) (h31 : gS d 31 = 0) (hc : 0 < c) (hc7 : c < 7) : ∃ r' d', f_X4_fail r (nI c) = some (0, r') ∧ f_X9_flaw d (nI c) = some d' ∧ FLT r' d' ∧ FDR d d' ∧ d'.2 = d.2 := by
  obtain ⟨_, ⟨p4, p5, _⟩, _, _⟩ := hK
  obtain ⟨r1, w1, a1, b1, c1⟩ := pS_e r 6 (nI c)
  obtain ⟨r2, w2, a2, b2, c2⟩ := pS_e r1 7 (gS r1 3)
  obtain ⟨d1, v1, x1, y1, z1⟩ := pS_e d 31 (nI c)
  obtain ⟨d2, v2, x2, y2, z2⟩ := pS_e d1 28 0
  refine ⟨r2, d2, ?_, ?_, ⟨⟨x2, c, by rw [y2 31 (by decide)]; exact x1, hc, hc7⟩, ?_, ?_⟩, ⟨fun k hk => by rw [y2 k (by omega), y1 k (by omega)], fun k hk => by rw [z2, z1]⟩, by rw [z2, z1]⟩
  · unfold f_X4_fail
    rw [bs, w1, bs, w2]
  · unfold f_X9_flaw b_X9_flaw_12
    rw [if_pos h31, bs, v1, bs, v2]
  · rw [b2 6 (by decide), a1, y2 31 (by decide), x1]
  · rw [a2, b1 3 (by decide), p4, y2 29 (by decide), y1 29 (by decide), p5]
end WD
section FL
variable {d : Pic} {w : Nat} {dw : Int64}
theorem FLd.n {d : Pic} (h : FLd d) : ¬ gS d 31 = 0 ∧ ¬ gS d 31 ≤ 0 := by
  obtain ⟨_, f, h1, h2, h3⟩ := h
  rw [h1]
  exact ⟨nI_ne0 h2 (by omega), nI_nle h2 (by omega)⟩
theorem fl_flaw (h : FLd d) (x : Int32) : f_X9_flaw d x = some d := by
  unfold f_X9_flaw b_X9_flaw_12
  rw [if_neg h.n.1, bs, pS_self h.1]
theorem fl_go (h : FLd d) : f_X9_goOn d dw = some (d, dw) := by
  unfold f_X9_goOn
  rw [if_neg h.n.2]
theorem fl_word (h : FLd d) (hw : w < 9) : f_X9_isWord d dw w = some 0 := by
  rw [m_word hw, h.1, if_neg (by decide)]
theorem fl_sign (h : FLd d) (x : Int32) : f_X9_isSign d x = some 0 := by
  unfold f_X9_isSign
  rw [h.1, if_neg (by decide)]
theorem fl_wa (h : FLd d) (x y : Int32) : f_X9_wholeAt d x y = some (x, d) := by
  unfold f_X9_wholeAt b_X9_wholeAt_33
  rw [h.1, if_neg (by decide), fl_flaw h, bs, if_neg h.n.2]
theorem fl_rw (h : FLd d) (x y : Int32) : f_X9_readWhole d dw x y = some (x, d, dw) := by
  unfold f_X9_readWhole
  rw [fl_wa h, bs, fl_go h, bs]
theorem fl_rp (h : FLd d) (hw : w < 9) (x y : Int32) : f_X9_readPart d dw w x y = some (x, d, dw) := by
  unfold f_X9_readPart b_X9_readPart_13
  rw [fl_word h hw, bs, if_pos rfl, fl_flaw h, bs, fl_go h, bs, fl_rw h, bs]
theorem fl_sw (h : FLd d) : b_X9_readSwap_12 d dw = some (d, dw) := by
  unfold b_X9_readSwap_12
  rw [fl_go h, bs, fl_rp h (by decide), bs, fl_rp h (by decide), bs, fl_rp h (by decide), bs, if_neg h.n.2]
theorem fl_b9 (h : FLd d) (x : Int32) : b_X9_begins_9 x d dw = some (d, dw) := by
  unfold b_X9_begins_9 b_X9_begins_21
  by_cases g : gS d 7 = 0
  · rw [if_pos g, fl_flaw h, bs, fl_go h, bs]
  · rw [if_neg g, fl_go h, bs]
theorem fl_79 (h : FLd d) (n v m : Int32) : b_X9_readSome_79 n d dw v m = some (n, d, dw) := by
  unfold b_X9_readSome_79
  rw [if_neg h.n.2]
theorem fl_75 (h : FLd d) (n v m : Int32) : b_X9_readSome_75 n d dw v m = some (n, d, dw) := by
  unfold b_X9_readSome_75
  rw [fl_go h, bs, fl_79 h]
theorem fl_27 (h : FLd d) (n v : Int32) : b_X9_readSome_27 n d dw v = some (n, d, dw) := by
  unfold b_X9_readSome_27
  rw [fl_go h, bs, fl_word h (by decide), bs, if_pos rfl, fl_79 h]
theorem fl_so (h : FLd d) (n : Int32) : f_X9_readSome d dw n = some (n, d, dw) := by
  unfold f_X9_readSome
  rw [fl_wa h, bs, if_neg h.n.1, fl_27 h]
theorem fl_o46 (h : FLd d) (x v t : Int32) : b_X9_readOp_46 x d dw v t = some (d, dw) := by
  unfold b_X9_readOp_46
  rw [if_neg h.n.2]
theorem fl_75d (h : FLd d) : b_X9_readDataLine_75 d dw = some (d, dw) := by
  unfold b_X9_readDataLine_75
  rw [if_neg h.n.1]
theorem fl_24 (h : FLd d) (n : Nat) (v : Int32) : L_X9_readDataLine_24 (n + 1) d dw v = some (d, dw) := by
  show b_X9_readDataLine_24 _ d dw v = _
  unfold b_X9_readDataLine_24
  rw [fl_sign h, bs, if_pos rfl, fl_75d h]
  by_cases g : 16 ≤ v
  · rw [if_pos g]
  · rw [if_neg g, fl_sign h, bs, if_pos rfl, h.1, if_neg (by decide)]
end FL
