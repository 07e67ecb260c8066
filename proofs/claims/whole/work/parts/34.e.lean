/-! (B) reading: numbers, parts of a line -/
theorem okZ0 : okZ 0 = some 0 := rfl
theorem okZ1 : okZ 1 = some 1 := rfl
theorem bpe {α β : Type} {o : Option (α × β)} : (o.bind fun u => some (u.1, u.2)) = o := by cases o <;> rfl
theorem hh_c (h : Nat) (hb : h < 2 ^ 31) : ∀ v, v < 1000 → (nI v ≤ nI h ↔ v < h + 1) := fun v hv => by
  rw [nI_leI (by omega) hb]; omega
theorem hh_d (h : Nat) (hb : h < 2 ^ 31) : ∀ v, v < 1000 → (nI v ≤ nI h - 1 ↔ v < h) := fun v hv => by
  cases h with
  | zero =>
    rw [show nI 0 - 1 = (-1 : Int32) by decide, Int32.le_iff_toInt_le, nI_toInt (by omega), show (-1 : Int32).toInt = -1 by decide]; omega
  | succ h =>
    rw [nI_pred, nI_leI (by omega) (by omega)]; omega
def pt (r b : Pic) (w : Nat) (lo hi : Int32) : Option (Int32 × Pic) := (f_X4_takeWord r b w).bind fun u => if u.1 = 0 then some (-1, u.2) else (f_X4_takeWhole u.2 b lo hi).bind fun u' => some (u'.1, u'.2)
theorem pt_k {α : Type} {r b : Pic} {w : Nat} {lo hi : Int32} (K : Pic → Int32 → Option α) : ((f_X4_takeWord r b w).bind fun u2 => if u2.1 = 0 then K u2.2 (-1) else (f_X4_takeWhole u2.2 b lo hi).bind fun u13 => K u13.2 u13.1) = (pt r b w lo hi).bind fun q => K q.2 q.1 := by
  unfold pt
  cases f_X4_takeWord r b w with
  | none => rfl
  | some u =>
    rw [bs, bs]
    by_cases g : u.1 = 0
    · rw [if_pos g, if_pos g, bs]
    · rw [if_neg g, if_neg g, bpe]
section NU
variable {r b d : Pic} {T : Nat → Nat} {N i s q κ a k w lo H : Nat} {dw : Int64} {hiI : Int32}
theorem x_num (hT : TPE b d T) (h2 : gS r 2 = nI a) (ha : a ≤ 900) (hd : ∀ j, s ≤ j → j < a → 48 ≤ T j ∧ T j ≤ 57) (x1 x2 : Int32) : ∀ (m j n : Nat), j + m = a → m < n → s ≤ j → L_X4_takeWhole_24 b x1 x2 n r (nI (nV T s (j - s))) (nI j) = if nI (nV T s (a - s)) < x1 then b_X4_takeWhole_64 b x1 x2 r else if nI (nV T s (a - s)) ≤ x2 then (f_X4_advance r b).bind fun u2 => some (nI (nV T s (a - s)), u2) else b_X4_takeWhole_64 b x1 x2 r := by
  intro m
  induction m with
  | zero =>
    intro j n h1 hn hs
    cases n with
    | zero => omega
    | succ n =>
      have : j = a := by omega
      subst this
      show b_X4_takeWhole_24 b x1 x2 _ r _ _ = _
      unfold b_X4_takeWhole_24
      rw [h2, if_pos (nI_le (Nat.le_refl _) (by omega))]
  | succ m ih =>
    intro j n h1 hn hs
    cases n with
    | zero => omega
    | succ n =>
      have hj := hd j hs (by omega)
      show b_X4_takeWhole_24 b x1 x2 _ r _ _ = _
      unfold b_X4_takeWhole_24
      rw [h2, if_neg (nI_ge (by omega) (by omega)), x_by hT (by omega), bs, show (10 : Int32) = nI 10 from rfl, nI_mul, nI_add, show (48 : Int32) = nI 48 from rfl, nI_sub (by omega), nI_1]
      have := ih (j + 1) n (by omega) (by omega) (by omega)
      rw [show j + 1 - s = (j - s) + 1 by omega, show nV T s ((j - s) + 1) = nV T s (j - s) * 10 + T j - 48 by
        show 10 * nV T s (j - s) + (T (s + (j - s)) - 48) = _
        rw [show s + (j - s) = j by omega]; omega] at this
      exact this
theorem both_wh (hK : TKR N T r d dw s a k) (hT : TPE b d T) (h31 : gS d 31 = 0) (hlo : lo < 1000) (hh : ∀ v, v < 1000 → (nI v ≤ hiI ↔ v < H)) : (∃ v, lo ≤ v ∧ v < H ∧ v < 1000 ∧ f_X4_takeWhole r b (nI lo) hiI = ((f_X4_advance r b).bind fun u2 => some (nI v, u2)) ∧ f_X9_wholeAt d (nI lo) hiI = some (nI v, d) ∧ PSR N r d a ∧ s < a) ∨ (∃ r' d', f_X4_takeWhole r b (nI lo) hiI = some (-1, r') ∧ f_X9_wholeAt d (nI lo) hiI = some (nI lo, d') ∧ FLT r' d' ∧ FDR d d' ∧ d'.2 = d.2) := by
  have hK' := hK
  obtain ⟨⟨p1, p2, p3⟩, ⟨p4, p5, p6⟩, p7, p8⟩ := hK
  have bad : ∀ c : Nat, 0 < c → c < 7 → f_X4_takeWhole r b (nI lo) hiI = ((f_X4_fail r (nI c)).bind fun u4 => some ((-1), u4.2)) → f_X9_wholeAt d (nI lo) hiI = ((f_X9_flaw d (nI c)).bind fun u3 => b_X9_wholeAt_33 (nI lo) hiI u3) → ∃ r' d', f_X4_takeWhole r b (nI lo) hiI = some (-1, r') ∧ f_X9_wholeAt d (nI lo) hiI = some (nI lo, d') ∧ FLT r' d' ∧ FDR d d' ∧ d'.2 = d.2 := by
    intro c c0 c7 e1 e2
    obtain ⟨r', d', w1, w2, f1, f2, f3⟩ := both_fail hK' h31 c0 c7
    refine ⟨r', d', by rw [e1, w1, bs], ?_, f1, f2, f3⟩
    rw [e2, w2, bs]
    unfold b_X9_wholeAt_33
    rw [if_neg f1.1.n.2]
  by_cases k2 : k = 2
  · have hc : gS d 28 = 3 ∧ PSR N r d a ∧ s < a ∧ a ≤ s + 3 ∧ gS d 30 = nI (nV T s (a - s)) ∧ ∀ j, s ≤ j → j < a → 48 ≤ T j ∧ T j ≤ 57 := by
      rcases p8 with h | h | h | h | h | h
      · omega
      · omega
      · exact h.2
      · omega
      · omega
      · omega
    obtain ⟨q1, q2, q3, q4, q5, q6⟩ := hc
    have ha : a ≤ N := q2.2.2.2.2.2
    have hv : nV T s (a - s) < 1000 := nV_b3 (by omega) (fun j hj => q6 (s + j) (by omega) (by omega))
    have ex : f_X4_takeWhole r b (nI lo) hiI = if nI (nV T s (a - s)) < nI lo then b_X4_takeWhole_64 b (nI lo) hiI r else if nI (nV T s (a - s)) ≤ hiI then (f_X4_advance r b).bind fun u2 => some (nI (nV T s (a - s)), u2) else b_X4_takeWhole_64 b (nI lo) hiI r := by
      unfold f_X4_takeWhole
      rw [p7, k2, if_pos (by decide), p4]
      have := x_num hT q2.2.2.2.1 (by omega) q6 (nI lo) hiI (a - s) s FU (by omega) (FU_ge (by omega)) (Nat.le_refl _)
      rw [Nat.sub_self] at this
      exact this
    have em : f_X9_wholeAt d (nI lo) hiI = (f_X9_in (nI (nV T s (a - s))) (nI lo) hiI).bind fun u1 => if u1 = 0 then (f_X9_flaw d 2).bind fun u2 => b_X9_wholeAt_33 (nI lo) hiI u2 else b_X9_wholeAt_33 (nI lo) hiI d := by
      unfold f_X9_wholeAt
      rw [q1, if_pos (by decide), q5]
    generalize nV T s (a - s) = v at q5 hv ex em
    have hlt : hiI < nI v ↔ ¬ nI v ≤ hiI := by rw [Int32.lt_iff_toInt_lt, Int32.le_iff_toInt_le]; omega
    by_cases g1 : v < lo
    · right
      refine bad 2 (by decide) (by decide) ?_ ?_
      · rw [ex, if_pos (nI_lt g1 (by omega))]; rfl
      · rw [em]
        unfold f_X9_in
        rw [if_pos (nI_lt g1 (by omega)), bs, if_pos rfl]; rfl
    · by_cases g2 : v < H
      · left
        refine ⟨v, by omega, g2, hv, ?_, ?_, q2, q3⟩
        · rw [ex, if_neg (nI_nlt (by omega) (by omega)), if_pos ((hh v hv).mpr g2)]
        · rw [em]
          unfold f_X9_in
          rw [if_neg (nI_nlt (by omega) (by omega)), if_neg (fun x => hlt.mp x ((hh v hv).mpr g2)), bs, if_neg (by decide)]
          unfold b_X9_wholeAt_33
          rw [h31, if_pos (by decide), q5]
      · right
        refine bad 2 (by decide) (by decide) ?_ ?_
        · rw [ex, if_neg (nI_nlt (by omega) (by omega)), if_neg (fun x => g2 ((hh v hv).mp x))]; rfl
        · rw [em]
          unfold f_X9_in
          rw [if_neg (nI_nlt (by omega) (by omega)), if_pos (hlt.mpr (fun x => g2 ((hh v hv).mp x))), bs, if_pos rfl]; rfl
  · right
    have hk : k < 7 := by omega
    have h28 : ¬ gS d 28 = 3 := by
      rcases p8 with h | h | h | h | h | h
      · rw [h.2.1]; decide
      · rw [h.2.1]; decide
      · exact absurd h.1 k2
      · rw [h.2.1]; decide
      · rw [h.2.1]; decide
      · rw [h.2]; decide
    refine bad 1 (by decide) (by decide) ?_ ?_
    · unfold f_X4_takeWhole
      rw [p7, if_neg (fun x => k2 ((nI_e2 (by omega)).mp x))]; rfl
    · unfold f_X9_wholeAt
      rw [if_neg h28]; rfl
/-- a whole is taken, and gone over -/
theorem both_tw (hK : TKR N T r d dw s a k) (hT : TPE b d T) (h31 : gS d 31 = 0) (hlo : lo < 1000) (hh : ∀ v, v < 1000 → (nI v ≤ hiI ↔ v < H)) : (∃ v r' d' dw' s' a' k', lo ≤ v ∧ v < H ∧ v < 1000 ∧ f_X4_takeWhole r b (nI lo) hiI = some (nI v, r') ∧ f_X9_readWhole d dw (nI lo) hiI = some (nI v, d', dw') ∧ TKR N T r' d' dw' s' a' k' ∧ s < s' ∧ FRr r r' ∧ FRd d d') ∨ (∃ r' d', f_X4_takeWhole r b (nI lo) hiI = some (-1, r') ∧ f_X9_readWhole d dw (nI lo) hiI = some (nI lo, d', dw) ∧ FLT r' d' ∧ FDR d d' ∧ d'.2 = d.2) := by
  rcases both_wh hK hT h31 hlo hh with ⟨v, v1, v2, v3, e1, e2, e3, e4⟩ | ⟨r', d', e1, e2, e3, e4, e5⟩
  · left
    obtain ⟨r', d', dw', s', a', k', f1, f2, f3, f4, f5, f6⟩ := both_adv (dw := dw) e3 hT h31
    refine ⟨v, r', d', dw', s', a', k', v1, v2, v3, by rw [e1, f1, bs], ?_, f3, by omega, f5, f6⟩
    unfold f_X9_readWhole
    rw [e2, bs, f2, bs]
  · right
    refine ⟨r', d', e1, ?_, e3, e4, e5⟩
    unfold f_X9_readWhole
    rw [e2, bs, fl_go e3.1, bs]
/-- a word and a whole -/
theorem both_pt (hK : TKR N T r d dw s a k) (hT : TPE b d T) (h31 : gS d 31 = 0) (hw : w < 9) (hlo : lo < 1000) (hh : ∀ v, v < 1000 → (nI v ≤ hiI ↔ v < H)) : (∃ v r' d' dw' s' a' k', lo ≤ v ∧ v < H ∧ v < 1000 ∧ pt r b w (nI lo) hiI = some (nI v, r') ∧ f_X9_readPart d dw w (nI lo) hiI = some (nI v, d', dw') ∧ TKR N T r' d' dw' s' a' k' ∧ s < s' ∧ FRr r r' ∧ FRd d d') ∨ (∃ r' d' dw', pt r b w (nI lo) hiI = some (-1, r') ∧ f_X9_readPart d dw w (nI lo) hiI = some (nI lo, d', dw') ∧ FLT r' d' ∧ FDR d d' ∧ d'.2 = d.2) := by
  obtain ⟨v0, w1, w2, w3⟩ := both_wd hK hT hw
  rcases w3 with w3 | ⟨w3, w4⟩
  · right
    subst w3
    obtain ⟨r', d', f1, f2, f3, f4, f5⟩ := both_fail hK h31 (c := 1) (by decide) (by decide)
    refine ⟨r', d', dw, ?_, ?_, f3, f4, f5⟩
    · unfold pt f_X4_takeWord
      rw [w1, bs, if_pos rfl, show f_X4_fail r 1 = some (0, r') from f1, bs, okZ0, bs, bs, if_pos rfl]
    · unfold f_X9_readPart b_X9_readPart_13
      rw [w2, bs, if_pos rfl, show f_X9_flaw d 1 = some d' from f2, bs, fl_go f3.1, bs, fl_rw f3.1, bs]
  · subst w3
    have hPS : PSR N r d a ∧ s < a := by
      rcases hK.2.2.2 with h | h | h | h | h | h
      · omega
      · exact ⟨h.2.2.1, h.2.2.2.1⟩
      · omega
      · omega
      · omega
      · omega
    obtain ⟨r1, d1, dw1, s1, a1, k1, f1, f2, f3, f4, f5, f6⟩ := both_adv (dw := dw) hPS.1 hT h31
    have h31' : gS d1 31 = 0 := by rw [f6.1 31 (by decide) (by decide) (by decide) (by decide)]; exact h31
    have ew : f_X4_takeWord r b w = some (1, r1) := by
      unfold f_X4_takeWord
      rw [w1, bs, if_neg (by decide), f1, bs]
    have em : f_X9_readPart d dw w (nI lo) hiI = f_X9_readWhole d1 dw1 (nI lo) hiI := by
      unfold f_X9_readPart b_X9_readPart_13
      rw [w2, bs, if_neg (by decide), f2, bs]
      cases f_X9_readWhole d1 dw1 (nI lo) hiI <;> rfl
    have ep : pt r b w (nI lo) hiI = f_X4_takeWhole r1 b (nI lo) hiI := by
      unfold pt
      rw [ew, bs, if_neg (show ¬ (1 : Int32) = 0 by decide), bpe]
    rcases both_tw f3 (hT.of (by rw [f6.2])) h31' hlo hh with ⟨v, r', d', dw', s', a', k', v1, v2, v3, e1, e2, e3, e4, e5, e6⟩ | ⟨r', d', e1, e2, e3, e4, e5⟩
    · left
      exact ⟨v, r', d', dw', s', a', k', v1, v2, v3, by rw [ep, e1], by rw [em, e2], e3, by omega, f5.tr e5, f6.tr e6⟩
    · right
      exact ⟨r', d', dw1, by rw [ep, e1], by rw [em, e2], e3, f6.fr.tr e4, e5.trans f6.2⟩
theorem both_may {h R : Nat} {x : Int32} (hK : TKR N T r d dw s a k) (h31 : gS d 31 = 0) (hr : (gS r 5 = 0 ∧ gS d 7 = 0) ∨ (gS r 5 = 1 ∧ ¬ gS d 7 = 0)) (hR : h ≤ R) (hR2 : R < 100) (hx : x = if h = R then 1 else 0) : (h < R ∧ gS r 5 = 1 ∧ f_X4_mayCome r (nI h) (nI R) = some (1, r) ∧ f_X9_begins d dw x = f_X9_goOn d dw) ∨ (∃ r' d', f_X4_mayCome r (nI h) (nI R) = some (0, r') ∧ f_X9_begins d dw x = some (d', dw) ∧ FLT r' d' ∧ FDR d d' ∧ d'.2 = d.2) := by
  unfold f_X4_mayCome f_X9_begins
  by_cases g : h = R
  · right
    rw [if_pos g] at hx
    subst hx
    obtain ⟨r', d', f1, f2, f3, f4, f5⟩ := both_fail hK h31 (c := 4) (by decide) (by decide)
    refine ⟨r', d', ?_, ?_, f3, f4, f5⟩
    · rw [if_neg (nI_nlt (by omega) (by omega)), show f_X4_fail r 4 = some (0, r') from f1, bs, okZ0, bs]
    · rw [if_neg (by decide), show f_X9_flaw d 4 = some d' from f2, bs, fl_b9 f3.1]
  · rw [if_neg g] at hx
    subst hx
    rw [if_pos (nI_lt (by omega) (by omega)), if_pos rfl]
    unfold b_X9_begins_9 b_X9_begins_21
    rcases hr with ⟨h5, h7⟩ | ⟨h5, h7⟩
    · right
      obtain ⟨r', d', f1, f2, f3, f4, f5⟩ := both_fail hK h31 (c := 5) (by decide) (by decide)
      refine ⟨r', d', ?_, ?_, f3, f4, f5⟩
      · rw [if_pos h5, show f_X4_fail r 5 = some (0, r') from f1, bs, if_pos rfl]
      · rw [if_pos h7, show f_X9_flaw d 5 = some d' from f2, bs, fl_go f3.1, bs]
    · left
      refine ⟨by omega, h5, ?_, ?_⟩
      · rw [if_neg (by rw [h5]; decide)]
      · rw [if_neg h7, bpe]
end NU
