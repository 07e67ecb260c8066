/-! (B) the fittest step; ranks -/
def ctN (X : Nat → Nat) (w s : Nat) : Nat := sm (fun q => if X (165 + q) = 2 ∧ hoN (X (195 + q)) w = s then 1 else 0) 0 30
theorem gz_0 : ∀ s, s < 17 → 0 < s → (nI 0 + nI (slN s) - 1) / nI (slN s) * nI (frN s) = 0 := by decide +kernel
theorem ho_mod : ∀ w, w < 5 → 0 < w → ∀ v, v < 16 → hoN v w % w = 0 := by decide +kernel
section QH
variable {m b sc c t p z e h d D D' : Pic} {rs : Nat → Option Q4} {st bg nd no w s : Nat} {X : Nat → Nat}
theorem sz_b (R : RR st D p z X) {q : Nat} (hq : q < 30) (h2 : X (165 + q) = 2) : 3 ≤ X (195 + q) ∧ X (195 + q) ≤ 15 := (R.2.2.2.2.2.2.1 q hq h2).2.2.2.2
theorem p_ct (R : RR st D p z X) (hw : 1 ≤ w ∧ w ≤ 4) (hs : s < 17) : f_X3_pagesAtHome p (nI s) (nI w) = some (nI (ctN X w s)) := by
  have := loop_sm (L := L_X3_pagesAtHome_5 p (nI s) (nI w)) (fin := fun a => some a) (f := fun q => if X (165 + q) = 2 ∧ hoN (X (195 + q)) w = s then 1 else 0) (m := 30) (fun n acc => by
    show b_X3_pagesAtHome_5 p (nI s) (nI w) _ (nI acc) (nI 30) = _
    unfold b_X3_pagesAtHome_5
    rw [if_pos (by decide)]) (fun n acc j hj => by
    show b_X3_pagesAtHome_5 p (nI s) (nI w) _ (nI acc) (nI j) = _
    have hs' : X (165 + j) < 2 ^ 31 := R.2.2.2.sml _ (by omega)
    unfold b_X3_pagesAtHome_5
    rw [if_neg (show ¬ (30 : Int32) ≤ nI j from nI_ge (b := 30) hj (by decide)), rA_c hj (by decide) (R.2.1.1 j hj), bs]
    by_cases g : X (165 + j) = 2
    · have hb := sz_b R hj g
      have hh := ho_lt w (by omega) (by omega) (X (195 + j)) (by omega)
      rw [if_pos (by rw [g]; rfl), rA_c hj (by decide) (R.2.1.2.1 j hj g).1, bs, X0_ho w (by omega) (by omega) _ (by omega) (by omega), bs]
      by_cases g2 : hoN (X (195 + j)) w = s
      · rw [if_pos (by rw [g2]), if_pos ⟨g, g2⟩, nI_1, nI_1]
      · rw [if_neg (fun e => g2 ((nI_eq (by omega) (by omega)).mp e)), if_neg (fun e => g2 e.2), nI_1, show acc + 0 = acc from rfl]
    · rw [if_neg (fun e => g ((nI_e2 hs').mp e)), if_neg (fun e => g e.1), nI_1, show acc + 0 = acc from rfl]) 30 0 FU 0 (by omega) (FU_ge (by omega))
  rw [Nat.zero_add] at this
  exact this
theorem m_ct (R : RR st D p z X) (hw : 1 ≤ w ∧ w ≤ 4) (hs : s < 17) (h0 : 0 < s) (k4 : Int32 → Int32 → Option Int32) (acc : Int32) : L_X9_framesBy_16 D (nI w) k4 FU acc (nI s) 0 0 = k4 (acc + (nI (ctN X w s) + nI (slN s) - 1) / nI (slN s) * nI (frN s)) (nI s + nI w) := by
  have fp := fr_pos s hs h0
  have := loop_sm (L := fun n a i => L_X9_framesBy_16 D (nI w) k4 n acc (nI s) a i) (fin := fun a => k4 (acc + (a + nI (slN s) - 1) / nI (slN s) * nI (frN s)) (nI s + nI w)) (f := fun q => if X (165 + q) = 2 ∧ hoN (X (195 + q)) w = s then 1 else 0) (m := 30) (fun n a => by
    show b_X9_framesBy_16 D (nI w) k4 _ acc (nI s) (nI a) (nI 30) = _
    unfold b_X9_framesBy_16 dvI
    rw [if_pos (by decide), X9_sl s hs h0, bs, bs, if_neg (nI_ne0 fp.2.2.1 (by omega)), bs, X9_fr s hs h0, bs]) (fun n a j hj => by
    show b_X9_framesBy_16 D (nI w) k4 _ acc (nI s) (nI a) (nI j) = _
    have hs' : X (165 + j) < 2 ^ 31 := R.2.2.2.sml _ (by omega)
    unfold b_X9_framesBy_16 b_X9_framesBy_58
    rw [if_neg (show ¬ (30 : Int32) ≤ nI j from nI_ge (b := 30) hj (by decide)), m_pl R.1 hj, bs]
    by_cases g : X (165 + j) = 2
    · have hb := sz_b R hj g
      have hh := ho_lt w (by omega) (by omega) (X (195 + j)) (by omega)
      rw [if_pos (by rw [g]; rfl), show (195 : Int32) + nI j = nI (195 + j) from nI_add 195 j, m_x R.1 (by omega), bs, X9_ho w (by omega) (by omega) _ (by omega) (by omega), bs]
      by_cases g2 : hoN (X (195 + j)) w = s
      · rw [if_pos (by rw [g2]), if_pos ⟨g, g2⟩, nI_1, nI_1]
      · rw [if_neg (fun e => g2 ((nI_eq (by omega) (by omega)).mp e)), if_neg (fun e => g2 e.2), nI_1, show (0 : Int32) = nI 0 from rfl, nI_add]
    · rw [if_neg (fun e => g ((nI_e2 hs').mp e)), if_neg (fun e => g e.1), nI_1, show (0 : Int32) = nI 0 from rfl, nI_add]) 30 0 FU 0 (by omega) (FU_ge (by omega))
  rw [Nat.zero_add] at this
  exact this
theorem both_fb (R : RR st D p z X) (hw : 1 ≤ w ∧ w ≤ 4) : ∀ (r s n1 n2 : Nat) (acc : Int32), s + r = 17 → 1 ≤ s → r < n1 → r < n2 → ∃ v, L_X3_framesBy_4 p (nI w) n1 acc (nI s) = some v ∧ L_X9_framesBy_4 D (nI w) n2 acc (nI (hoN s w)) = some v := by
  intro r
  induction r with
  | zero =>
    intro s n1 n2 acc h1 h2 h3 h4
    cases n1 with
    | zero => omega
    | succ n1 =>
      cases n2 with
      | zero => omega
      | succ n2 =>
        have : s = 17 := by omega
        subst this
        have hd := hoD2 w (by omega) (by omega)
        refine ⟨acc, ?_, ?_⟩
        · show b_X3_framesBy_4 p (nI w) _ acc (nI 17) = _
          unfold b_X3_framesBy_4
          rw [if_pos (by decide)]
        · show b_X9_framesBy_4 D (nI w) _ acc (nI (hoN 17 w)) = _
          unfold b_X9_framesBy_4
          rw [if_pos (show (16 : Int32) < nI (hoN 17 w) from nI_lt (a := 16) hd.2.1 (by omega))]
  | succ r ih =>
    intro s n1 n2 acc h1 h2 h3 h4
    cases n1 with
    | zero => omega
    | succ n1 =>
      have hd := hoD w (by omega) (by omega) s (by omega) (by omega)
      have fp := fr_pos s (by omega) (by omega)
      have e8 : L_X3_framesBy_4 p (nI w) (n1 + 1) acc (nI s) = L_X3_framesBy_4 p (nI w) n1 (acc + (nI (ctN X w s) + nI (slN s) - 1) / nI (slN s) * nI (frN s)) (nI (s + 1)) := by
        show b_X3_framesBy_4 p (nI w) _ acc (nI s) = _
        unfold b_X3_framesBy_4 dvI
        rw [if_neg (show ¬ (16 : Int32) < nI s from nI_nlt (a := 16) (by omega) (by decide)), X0_sl s (by omega), bs, if_neg (nI_nle fp.2.2.1 (by omega)), p_ct R hw (by omega), bs, if_neg (nI_ne0 fp.2.2.1 (by omega)), bs, X0_fr s (by omega), bs, nI_1]
      rw [e8]
      by_cases g : s % w = 0
      · obtain ⟨q1, q2⟩ := hd.1 g
        cases n2 with
        | zero => omega
        | succ n2 =>
          obtain ⟨v, v1, v2⟩ := ih (s + 1) n1 n2 (acc + (nI (ctN X w s) + nI (slN s) - 1) / nI (slN s) * nI (frN s)) (by omega) (by omega) (by omega) (by omega)
          refine ⟨v, v1, ?_⟩
          rw [q1]
          show b_X9_framesBy_4 D (nI w) _ acc (nI s) = _
          unfold b_X9_framesBy_4
          rw [if_neg (show ¬ (16 : Int32) < nI s from nI_nlt (a := 16) (by omega) (by decide)), m_ct R hw (by omega) (by omega), show nI s + nI w = nI (s + w) from nI_add s w, ← q2]
          exact v2
      · have c0 : ctN X w s = 0 := sm_0 (fun j _ hj => by
          rw [if_neg]
          intro e
          have hb := sz_b R (q := j) (by omega) e.1
          have := ho_mod w (by omega) (by omega) (X (195 + j)) (by omega)
          rw [e.2] at this
          exact g this)
        rw [c0, gz_0 s (by omega) (by omega), Int32.add_zero]
        obtain ⟨v, v1, v2⟩ := ih (s + 1) n1 n2 acc (by omega) (by omega) (by omega) (by omega)
        rw [hd.2.1 g] at v2
        exact ⟨v, v1, v2⟩
theorem both_fby (R : RR st D p z X) (hw : 1 ≤ w ∧ w ≤ 4) : ∃ v, f_X3_framesBy p (nI w) = some v ∧ f_X9_framesBy D (nI w) = some v := by
  obtain ⟨v, v1, v2⟩ := both_fb R hw 16 1 FU FU 0 (by omega) (by omega) (FU_ge (by omega)) (FU_ge (by omega))
  rw [(hoD2 w (by omega) (by omega)).1] at v2
  exact ⟨v, v1, v2⟩
theorem both_fi (R : RR st D p z X) : ∀ (r s bb n1 n2 : Nat), s + r = 5 → 1 ≤ bb → bb ≤ 4 → 1 ≤ s → r < n1 → r < n2 → ∃ w, L_X8_fittest_17 t p n1 m (nI bb) (nI s) = ((f_X8_answer m w).bind fun u => some (u.1, u.2)) ∧ L_X9_fittest_22 n2 D (nI bb) (nI s) = ((f_X9_good D w).bind fun u => some (u.1, u.2)) := by
  intro r
  induction r with
  | zero =>
    intro s bb n1 n2 h1 h2 h3 h4 h5 h6
    cases n1 with
    | zero => omega
    | succ n1 =>
      cases n2 with
      | zero => omega
      | succ n2 =>
        have : s = 5 := by omega
        subst this
        refine ⟨nI bb, ?_, ?_⟩
        · show b_X8_fittest_17 t p _ m (nI bb) (nI 5) = _
          unfold b_X8_fittest_17
          rw [if_pos (by decide)]
        · show b_X9_fittest_22 _ D (nI bb) (nI 5) = _
          unfold b_X9_fittest_22
          rw [if_pos (by decide)]
  | succ r ih =>
    intro s bb n1 n2 h1 h2 h3 h4 h5 h6
    cases n1 with
    | zero => omega
    | succ n1 =>
      cases n2 with
      | zero => omega
      | succ n2 =>
        obtain ⟨v, v1, v2⟩ := both_fby R (w := s) ⟨h4, by omega⟩
        obtain ⟨u, u1, u2⟩ := both_fby R (w := bb) ⟨h2, h3⟩
        have e8 : L_X8_fittest_17 t p (n1 + 1) m (nI bb) (nI s) = if u ≤ v then L_X8_fittest_17 t p n1 m (nI bb) (nI (s + 1)) else L_X8_fittest_17 t p n1 m (nI s) (nI (s + 1)) := by
          show b_X8_fittest_17 t p _ m (nI bb) (nI s) = _
          unfold b_X8_fittest_17
          rw [if_neg (show ¬ (4 : Int32) < nI s from nI_nlt (a := 4) (by omega) (by decide)), v1, bs, u1, bs, nI_1]
        have e9 : L_X9_fittest_22 (n2 + 1) D (nI bb) (nI s) = if u ≤ v then L_X9_fittest_22 n2 D (nI bb) (nI (s + 1)) else L_X9_fittest_22 n2 D (nI s) (nI (s + 1)) := by
          show b_X9_fittest_22 _ D (nI bb) (nI s) = _
          unfold b_X9_fittest_22
          rw [if_neg (show ¬ (4 : Int32) < nI s from nI_nlt (a := 4) (by omega) (by decide)), v2, bs, u2, bs, nI_1]
        rw [e8, e9]
        by_cases g : u ≤ v
        · rw [if_pos g, if_pos g]
          exact ih (s + 1) bb n1 n2 (by omega) h2 h3 (by omega) (by omega) (by omega)
        · rw [if_neg g, if_neg g]
          exact ih (s + 1) s n1 n2 (by omega) h4 (by omega) (by omega) (by omega) (by omega)
theorem q_fittest (H : RLX m b sc c t p z e h rs d) : ∃ v m' d', f_X8_fittest m t p = some (v, m') ∧ f_X9_fittest d = some (v, d') ∧ RLX m' b sc c t p z e h rs d' := by
  have H := H.d0
  generalize hd : pS d 0 0 = D at H
  rcases H.2.2.2.2 with U | ⟨st, bg, nd, no, X, L⟩
  · exact finr H KD.rf 1 (by decide) (by unfold f_X8_fittest; rw [if_pos U.1]; rfl) (by unfold f_X9_fittest; rw [bs, hd, if_pos U.2.1]; rfl)
  · have R := L.2.2.2.2.2.1
    obtain ⟨w, w1, w2⟩ := both_fi (m := m) (t := t) R 3 2 1 FU FU (by omega) (by omega) (by omega) (by omega) (FU_ge (by omega)) (FU_ge (by omega))
    exact fin1 H KD.rf w (by unfold f_X8_fittest; rw [if_neg L.m0.1, show L_X8_fittest_17 t p FU m 1 2 = _ from w1]; rfl) (by unfold f_X9_fittest; rw [bs, hd, if_neg L.m0.2, show L_X9_fittest_22 FU D 1 2 = _ from w2]; rfl)
end QH
/-- so many numbers, none twice, are all -/
theorem pigeon : ∀ (n : Nat) (f : Nat → Nat), (∀ i, i < n → f i < n) → (∀ i j, i < n → j < n → f i = f j → i = j) → ∀ k, k < n → ∃ i, i < n ∧ f i = k
  | 0, _, _, _, k, hk => by omega
  | n + 1, f, h1, h2, k, hk => by
    by_cases g : k = f n
    · exact ⟨n, by omega, g.symm⟩
    · have hfn := h1 n (by omega)
      obtain ⟨i, i1, i2⟩ := pigeon n (fun i => if f i = n then f n else f i) (fun i hi => by
        try dsimp only
        have := h1 i (by omega)
        by_cases e : f i = n
        · rw [if_pos e]
          by_cases e2 : f n = n
          · exact absurd (h2 i n (by omega) (by omega) (e.trans e2.symm)) (by omega)
          · omega
        · rw [if_neg e]; omega) (fun i j hi hj he => by
        try dsimp only at he
        by_cases e : f i = n
        · rw [if_pos e] at he
          by_cases e2 : f j = n
          · exact h2 i j (by omega) (by omega) (e.trans e2.symm)
          · rw [if_neg e2] at he
            exact absurd (h2 n j (by omega) (by omega) he) (by omega)
        · rw [if_neg e] at he
          by_cases e2 : f j = n
          · rw [if_pos e2] at he
            exact absurd (h2 i n (by omega) (by omega) he) (by omega)
          · rw [if_neg e2] at he
            exact h2 i j (by omega) (by omega) he) (if k = n then f n else k) (by
        by_cases e : k = n
        · rw [if_pos e]; omega
        · rw [if_neg e]; omega)
      try dsimp only at i2
      refine ⟨i, by omega, ?_⟩
      by_cases e : k = n
      · rw [if_pos e] at i2
        by_cases e2 : f i = n
        · rw [e2, e]
        · rw [if_neg e2] at i2
          exact absurd (h2 i n (by omega) (by omega) i2) (by omega)
      · rw [if_neg e] at i2
        by_cases e2 : f i = n
        · rw [if_pos e2] at i2
          exact absurd i2.symm g
        · rw [if_neg e2] at i2
          exact i2
def bfN (S : Nat → Nat) (o k : Nat) : Bool := decide (S o < S k ∨ (S o = S k ∧ o < k))
def rkN (S : Nat → Nat) (nd k : Nat) : Nat := sm (fun o => if bfN S o k = true then 1 else 0) 0 nd
theorem rk_lt {S : Nat → Nat} {nd i j : Nat} (hi : i < nd) (hb : S i < S j ∨ (S i = S j ∧ i < j)) : rkN S nd i < rkN S nd j := by
  have h1 : sm (fun o => if bfN S o i = true then 1 else 0) 0 nd + (if bfN S i j = true then 1 else 0) ≤ sm (fun o => if bfN S o j = true then 1 else 0) 0 nd + (if bfN S i i = true then 1 else 0) := by
    have e := sm_upr (f := fun o => if o = i then (if bfN S i j = true then 1 else 0) else (if bfN S o i = true then 1 else 0)) (g := fun o => if bfN S o i = true then 1 else 0) (i := i) nd 0 (by omega) (by omega) (fun j _ _ hj => by rw [if_neg hj])
    try dsimp only at e
    rw [if_pos rfl] at e
    have l := sm_mono (f := fun o => if o = i then (if bfN S i j = true then 1 else 0) else (if bfN S o i = true then 1 else 0)) (g := fun o => if bfN S o j = true then 1 else 0) nd 0 (fun o _ _ => by
      try dsimp only
      by_cases g : o = i
      · rw [if_pos g, g]; exact Nat.le_refl _
      · rw [if_neg g]
        by_cases g2 : bfN S o i = true
        · have g3 : bfN S o j = true := by
            unfold bfN at g2 ⊢
            rw [decide_eq_true_eq] at g2 ⊢
            omega
          rw [if_pos g2, if_pos g3]; exact Nat.le_refl _
        · rw [if_neg g2]; exact Nat.zero_le _)
    omega
  have h2 : bfN S i j = true := by
    unfold bfN
    rw [decide_eq_true_eq]; exact hb
  have h3 : ¬ bfN S i i = true := by
    unfold bfN
    rw [decide_eq_true_eq]; omega
  rw [if_pos h2, if_neg h3] at h1
  unfold rkN
  omega
theorem rk_b {S : Nat → Nat} {nd i : Nat} (hi : i < nd) : rkN S nd i < nd := by
  have e := sm_upr (f := fun o => if bfN S o i = true then 1 else 0) (g := fun o => if o = i then 1 else if bfN S o i = true then 1 else 0) (i := i) nd 0 (by omega) (by omega) (fun j _ _ hj => by rw [if_neg hj])
  try dsimp only at e
  have h3 : ¬ bfN S i i = true := by
    unfold bfN
    rw [decide_eq_true_eq]; omega
  rw [if_pos rfl, if_neg h3] at e
  have l := sm_le (f := fun o => if o = i then 1 else if bfN S o i = true then 1 else 0) (b := 1) nd 0 (fun o _ _ => by
    try dsimp only
    by_cases g : o = i
    · rw [if_pos g]; exact Nat.le_refl _
    · rw [if_neg g]; split <;> omega)
  unfold rkN
  omega
theorem rk_inj {S : Nat → Nat} {nd i j : Nat} (hi : i < nd) (hj : j < nd) (h : rkN S nd i = rkN S nd j) : i = j := by
  by_cases g : i = j
  · exact g
  · have : (S i < S j ∨ (S i = S j ∧ i < j)) ∨ (S j < S i ∨ (S j = S i ∧ j < i)) := by omega
    rcases this with h' | h'
    · have := rk_lt hi h'
      omega
    · have := rk_lt hj h'
      omega
section QR2
variable {m b sc c t p z e h d D D' : Pic} {rs : Nat → Option Q4} {st bg nd no : Nat} {X : Nat → Nat}
def szN (X : Nat → Nat) (k : Nat) : Nat := (TT (dcX X k) 0).1
theorem x_rk (L : TLX st bg nd no X m sc t p z e h rs D) {k : Nat} (hk : k < nd) : f_X8_rankOf m sc t (nI k) = some (nI (rkN (szN X) nd k)) := by
  have S := L.2.2.2.2.2.2.2.1
  have hnd := L.2.1.2.2.1
  have := loop_sm (L := L_X8_rankOf_4 m sc t (nI k)) (fin := fun a => some a) (f := fun o => if bfN (szN X) o k = true then 1 else 0) (m := nd) (fun n acc => by
    show b_X8_rankOf_4 m sc t (nI k) _ (nI acc) (nI nd) = _
    unfold b_X8_rankOf_4
    rw [L.2.2.2.1.2.2.1, if_pos (nI_le (Nat.le_refl _) (by omega))]) (fun n acc j hj => by
    show b_X8_rankOf_4 m sc t (nI k) _ (nI acc) (nI j) = _
    have b1 := tt_b (c := dcX X j)
    have b2 := tt_b (c := dcX X k)
    unfold b_X8_rankOf_4
    rw [L.2.2.2.1.2.2.1, if_neg (nI_ge hj (by omega)), rA_c (by omega) (by decide) (S.2.2.2.2 j hj), bs, rA_c (by omega) (by decide) (S.2.2.2.2 k hk), bs, bs]
    have bf : bfN (szN X) j k = true ↔ ((TT (dcX X j) 0).1 < (TT (dcX X k) 0).1 ∨ ((TT (dcX X j) 0).1 = (TT (dcX X k) 0).1 ∧ j < k)) := by
      unfold bfN szN
      rw [decide_eq_true_eq]
    by_cases g1 : (TT (dcX X j) 0).1 < (TT (dcX X k) 0).1
    · rw [if_pos (nI_lt g1 (by omega)), if_pos (bf.mpr (Or.inl g1)), nI_1, nI_1]
    · rw [if_neg (nI_nlt (by omega) (by omega))]
      by_cases g2 : (TT (dcX X j) 0).1 = (TT (dcX X k) 0).1
      · rw [if_pos (by rw [g2])]
        by_cases g3 : j < k
        · rw [if_neg (nI_ge g3 (by omega)), if_pos (bf.mpr (Or.inr ⟨g2, g3⟩)), nI_1, nI_1]
        · rw [if_pos (nI_le (by omega) (by omega)), if_neg (fun w => by have := bf.mp w; omega), nI_1, show acc + 0 = acc from rfl]
      · rw [if_neg (fun w => g2 ((nI_eq (by omega) (by omega)).mp w)), if_neg (fun w => by have := bf.mp w; omega), nI_1, show acc + 0 = acc from rfl]) nd 0 FU 0 (by omega) (FU_ge (by omega))
  rw [Nat.zero_add] at this
  exact this
theorem m_rk (hnd : nd ≤ 10) (h5 : gS D 5 = nI nd) (h41 : ∀ i, i < nd → D.2 41 i = nI (szN X i)) {k : Nat} (hk : k < nd) : f_X9_rankOf D (nI k) = some (nI (rkN (szN X) nd k)) := by
  have := loop_sm (L := L_X9_rankOf_4 D (nI k)) (fin := fun a => some a) (f := fun o => if bfN (szN X) o k = true then 1 else 0) (m := nd) (fun n acc => by
    show b_X9_rankOf_4 D (nI k) _ (nI acc) (nI nd) = _
    unfold b_X9_rankOf_4
    rw [h5, if_pos (nI_le (Nat.le_refl _) (by omega))]) (fun n acc j hj => by
    show b_X9_rankOf_4 D (nI k) _ (nI acc) (nI j) = _
    have b1 := tt_b (c := dcX X j)
    have b2 := tt_b (c := dcX X k)
    unfold b_X9_rankOf_4 b_X9_rankOf_48 b_X9_rankOf_52
    rw [h5, if_neg (nI_ge hj (by omega)), rA_c (by omega) (by decide) (h41 j hj), bs, rA_c (by omega) (by decide) (h41 k hk), bs, bs, bs]
    have bf : bfN (szN X) j k = true ↔ ((TT (dcX X j) 0).1 < (TT (dcX X k) 0).1 ∨ ((TT (dcX X j) 0).1 = (TT (dcX X k) 0).1 ∧ j < k)) := by
      unfold bfN szN
      rw [decide_eq_true_eq]
    unfold szN
    by_cases g1 : (TT (dcX X j) 0).1 < (TT (dcX X k) 0).1
    · rw [if_pos (nI_lt g1 (by omega))]
      show L_X9_rankOf_4 D (nI k) n (nI acc + 1) (nI j + 1) = L_X9_rankOf_4 D (nI k) n (nI (acc + if bfN (szN X) j k = true then 1 else 0)) (nI (j + 1))
      rw [if_pos (bf.mpr (Or.inl g1)), nI_1, nI_1]
    · rw [if_neg (nI_nlt (by omega) (by omega))]
      by_cases g2 : (TT (dcX X j) 0).1 = (TT (dcX X k) 0).1
      · rw [if_pos (by rw [g2])]
        by_cases g3 : j < k
        · rw [if_neg (nI_ge g3 (by omega))]
          show L_X9_rankOf_4 D (nI k) n (nI acc + 1) (nI j + 1) = L_X9_rankOf_4 D (nI k) n (nI (acc + if bfN (szN X) j k = true then 1 else 0)) (nI (j + 1))
          rw [if_pos (bf.mpr (Or.inr ⟨g2, g3⟩)), nI_1, nI_1]
        · rw [if_pos (nI_le (by omega) (by omega))]
          show L_X9_rankOf_4 D (nI k) n (nI acc + 0) (nI j + 1) = L_X9_rankOf_4 D (nI k) n (nI (acc + if bfN (szN X) j k = true then 1 else 0)) (nI (j + 1))
          rw [if_neg (fun w => by have := bf.mp w; omega), nI_1, show (0 : Int32) = nI 0 from rfl, nI_add]
      · rw [if_neg (fun w => g2 ((nI_eq (by omega) (by omega)).mp w))]
        show L_X9_rankOf_4 D (nI k) n (nI acc + 0) (nI j + 1) = L_X9_rankOf_4 D (nI k) n (nI (acc + if bfN (szN X) j k = true then 1 else 0)) (nI (j + 1))
        rw [if_neg (fun w => by have := bf.mp w; omega), nI_1, show (0 : Int32) = nI 0 from rfl, nI_add]) nd 0 FU 0 (by omega) (FU_ge (by omega))
  rw [Nat.zero_add] at this
  exact this
theorem m_rks {x1 : Int32} (L0 : TLX st bg nd no X m sc t p z e h rs D) : ∀ (r k n : Nat) (D1 : Pic), k + r = nd → r < n → KD D D1 → TLX st bg nd no X m sc t p z e h rs D1 → (∀ i, i < k → D1.2 41 i = nI (szN X i)) → ∃ D2, L_X9_ranked_32 x1 n D1 (nI k) = L_X9_ranked_62 x1 FU D2 0 ∧ KD D D2 ∧ (gS D2 5 = nI nd) ∧ ∀ i, i < nd → D2.2 41 i = nI (szN X i) := by
  intro r
  induction r with
  | zero =>
    intro k n D1 h1 h2 hk L h41
    cases n with
    | zero => omega
    | succ n =>
      have : k = nd := by omega
      subst this
      have hnd := L.2.1.2.2.1
      refine ⟨D1, ?_, hk, L.2.2.1.2.2.1, h41⟩
      show b_X9_ranked_32 x1 _ D1 (nI k) = _
      unfold b_X9_ranked_32
      rw [L.2.2.1.2.2.1, if_pos (nI_le (Nat.le_refl _) (by omega))]
  | succ r ih =>
    intro k n D1 h1 h2 hk L h41
    cases n with
    | zero => omega
    | succ n =>
      have hnd := L.2.1.2.2.1
      obtain ⟨D2, N, w1, w2, w3, w4, w5⟩ := L.ca (k := k) (by omega)
      obtain ⟨D3, u1, a1, b1, c1⟩ := wA_e (p := D2) 41 (n := 10) (j := k) (nI (TT (dcX X k) 0).1) (by omega) (by decide)
      have k3 : KD D2 D3 := ⟨fun i _ _ => by unfold gS; rw [a1], fun i hi _ _ => c1 i (by omega), fun j _ => by rw [c1 20 (by decide)]⟩
      obtain ⟨D4, f1, f2, f3, f4⟩ := ih (k + 1) n D3 (by omega) (by omega) ((hk.tr w2.kd).tr k3) (L.fr rfl (w2.kd.tr k3).kx) (fun i hi => by
        rw [b1]
        by_cases g : i = k
        · subst g; rw [up_s]; rfl
        · rw [up_n g, w2.2 41 (by omega)]; exact h41 i (by omega))
      refine ⟨D4, ?_, f2, f3, f4⟩
      show b_X9_ranked_32 x1 _ D1 (nI k) = _
      unfold b_X9_ranked_32
      rw [L.2.2.1.2.2.1, if_neg (nI_ge (by omega) (by omega)), m_da, bs, w1, bs, u1, bs, nI_1]
      exact f1
theorem q_ranked (H : RLX m b sc c t p z e h rs d) (x : Int32) : ∃ v m' d', f_X8_ranked m sc t x = some (v, m') ∧ f_X9_ranked d x = some (v, d') ∧ RLX m' b sc c t p z e h rs d' := by
  have H := H.d0
  generalize hd : pS d 0 0 = D at H
  rcases H.2.2.2.2 with U | ⟨st, bg, nd, no, X, L⟩
  · exact finr H KD.rf 1 (by decide) (by unfold f_X8_ranked; rw [if_pos U.1]; rfl) (by unfold f_X9_ranked; rw [bs, hd, if_pos U.2.1]; rfl)
  · have hnd := L.2.1.2.2.1
    have e8 : ∀ fin : Option Nat → Option (Int32 × Pic), fin none = ((f_X8_refuse m 1).bind fun u => some (u.1, u.2)) → (∀ k, fin (some k) = ((f_X8_answer m (nI k)).bind fun u => some (u.1, u.2))) → ∀ P : Nat → Bool, (∀ k, k < nd → (P k = true ↔ nI (rkN (szN X) nd k) = x)) → f_X8_ranked m sc t x = fin (fnd P nd 0) := by
      intro fin f0 f1 P hP
      unfold f_X8_ranked
      rw [if_neg L.m0.1]
      exact loop_fn (L := fun n i => L_X8_ranked_15 sc t x n m i) (fin := fin) (P := P) (m := nd) (fun n => by
        show b_X8_ranked_15 sc t x _ m (nI nd) = _
        unfold b_X8_ranked_15
        rw [L.2.2.2.1.2.2.1, if_pos (nI_le (Nat.le_refl _) (by omega)), f0]) (fun n k hk => by
        show b_X8_ranked_15 sc t x _ m (nI k) = _
        unfold b_X8_ranked_15
        rw [L.2.2.2.1.2.2.1, if_neg (nI_ge hk (by omega)), x_rk L hk, bs, nI_1]
        by_cases g : nI (rkN (szN X) nd k) = x
        · rw [if_pos g, if_pos ((hP k hk).mpr g), f1]
        · rw [if_neg g, if_neg (fun w => g ((hP k hk).mp w))]) nd 0 FU (by omega) (FU_ge (by omega))
    let fin : Option Nat → Option (Int32 × Pic) := fun o => match o with
      | none => (f_X8_refuse m 1).bind fun u => some (u.1, u.2)
      | some k => (f_X8_answer m (nI k)).bind fun u => some (u.1, u.2)
    rcases rng x nd with g | ⟨i, g, rfl, hi⟩ | ⟨i, g, hi, rfl⟩
    · have := e8 fin rfl (fun _ => rfl) (fun _ => false) (fun k hk => ⟨fun w => absurd w (by decide), fun w => absurd g (by rw [← w]; exact nI_pos (by have := rk_b (S := szN X) hk; omega))⟩)
      have hn : fnd (fun _ => false) nd 0 = none := by
        cases hf : fnd (fun _ => false) nd 0 with
        | none => rfl
        | some j => exact absurd (fnd_some hf).2.2 (by decide)
      rw [hn] at this
      exact finr H KD.rf 1 (by decide) (by rw [this]; rfl) (by unfold f_X9_ranked; rw [bs, hd, if_neg L.m0.2, if_pos g]; rfl)
    · have := e8 fin rfl (fun _ => rfl) (fun k => decide (rkN (szN X) nd k = i)) (fun k hk => by
        have hb := rk_b (S := szN X) hk
        rw [decide_eq_true_eq, nI_eq (by omega) hi])
      obtain ⟨k0, k1, k2⟩ := pigeon nd (rkN (szN X) nd) (fun j hj => rk_b hj) (fun a b ha hb he => rk_inj ha hb he) i g
      cases hf : fnd (fun k => decide (rkN (szN X) nd k = i)) nd 0 with
      | none => exact absurd (fnd_none hf k0 (by omega) (by omega)) (by simp [k2])
      | some k =>
        obtain ⟨j1, j2, j3⟩ := fnd_some hf
        have j2' : k < nd := by omega
        rw [hf] at this
        obtain ⟨D2, w1, w2, w3, w4⟩ := m_rks (x1 := nI i) L nd 0 FU D (by omega) (FU_ge (by omega)) KD.rf L (fun i hi => by omega)
        have l9 : L_X9_ranked_62 (nI i) FU D2 0 = (f_X9_good D2 (nI k)).bind fun u => some (u.1, u.2) := by
          have key : ∀ (r j n : Nat), j + r = k → r < n → L_X9_ranked_62 (nI i) n D2 (nI j) = (f_X9_good D2 (nI k)).bind fun u => some (u.1, u.2) := by
            intro r
            induction r with
            | zero =>
              intro j n h1 h2
              cases n with
              | zero => omega
              | succ n =>
                have : j = k := by omega
                subst this
                show b_X9_ranked_62 (nI i) _ D2 (nI j) = _
                unfold b_X9_ranked_62
                rw [m_rk hnd w3 w4 j2', bs, if_pos (by rw [decide_eq_true_eq] at j3; rw [j3])]
            | succ r ih =>
              intro j n h1 h2
              cases n with
              | zero => omega
              | succ n =>
                have hb := rk_b (S := szN X) (nd := nd) (i := j) (by omega)
                have hmin := fnd_min hf j (by omega) (by omega)
                show b_X9_ranked_62 (nI i) _ D2 (nI j) = _
                unfold b_X9_ranked_62
                rw [m_rk hnd w3 w4 (by omega), bs, if_neg (fun w => by
                  have := (nI_eq (by omega) hi).mp w
                  rw [this] at hmin
                  simp at hmin), nI_1]
                exact ih (j + 1) n (by omega) (by omega)
          exact key k 0 FU (by omega) (FU_ge (by omega))
        exact fin1 H w2 (nI k) (by rw [this]; rfl) (by unfold f_X9_ranked; rw [bs, hd, if_neg L.m0.2, if_neg (nI_pos hi), L.2.2.1.2.2.1, if_pos (nI_lt g (by omega)), show L_X9_ranked_32 (nI i) FU D 0 = _ from w1, l9]; rfl)
    · have := e8 fin rfl (fun _ => rfl) (fun _ => false) (fun k hk => ⟨fun w => absurd w (by decide), fun w => by
        have hb := rk_b (S := szN X) hk
        have := (nI_eq (by omega) hi).mp w
        omega⟩)
      have hn : fnd (fun _ => false) nd 0 = none := by
        cases hf : fnd (fun _ => false) nd 0 with
        | none => rfl
        | some j => exact absurd (fnd_some hf).2.2 (by decide)
      rw [hn] at this
      exact finr H KD.rf 1 (by decide) (by rw [this]; rfl) (by unfold f_X9_ranked; rw [bs, hd, if_neg L.m0.2, if_neg (nI_pos hi), L.2.2.1.2.2.1, if_neg (nI_nlt g hi)]; rfl)
end QR2
