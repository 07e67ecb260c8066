/-! (B) questions: what is asked for is there, or not -/
theorem rng (x : Int32) (n : Nat) : x < 0 ∨ (∃ j, j < n ∧ x = nI j ∧ j < 2 ^ 31) ∨ (∃ j, n ≤ j ∧ j < 2 ^ 31 ∧ x = nI j) := by
  by_cases g : x < 0
  · exact Or.inl g
  · obtain ⟨j, hj, e⟩ := nI_of g
    by_cases g' : j < n
    · exact Or.inr (Or.inl ⟨j, g', e, hj⟩)
    · exact Or.inr (Or.inr ⟨j, by omega, hj, e⟩)
theorem neg_lt {x : Int32} (h : x < 0) (n : Nat) (hn : n < 2 ^ 31) : x < nI n := by
  rw [Int32.lt_iff_toInt_lt, Int32.toInt_zero] at h
  rw [Int32.lt_iff_toInt_lt, nI_toInt hn]
  omega
theorem neg_ne {x : Int32} (h : x < 0) (n : Nat) (hn : n < 2 ^ 31) : ¬ x = nI n := fun e => nI_pos hn (e ▸ h)
/-- within bounds, or not -/
theorem c_in (x : Int32) (lo hi : Nat) (hl : lo < 2 ^ 31) (hh : hi < 2 ^ 31) : (∃ i, lo ≤ i ∧ i ≤ hi ∧ x = nI i ∧ f_X9_in x (nI lo) (nI hi) = some 1) ∨ (f_X9_in x (nI lo) (nI hi) = some 0 ∧ (x < nI lo ∨ (¬ x < nI lo ∧ nI hi < x)) ∧ ∀ i, lo ≤ i → i ≤ hi → ¬ x = nI i) := by
  rcases rng x (hi + 1) with g | ⟨j, g, e, hj⟩ | ⟨j, g, hj, e⟩
  · right
    have hx := neg_lt g lo hl
    refine ⟨?_, Or.inl hx, fun i _ h2 => neg_ne g i (by omega)⟩
    unfold f_X9_in
    rw [if_pos hx]
  · subst e
    by_cases g' : lo ≤ j
    · left
      refine ⟨j, g', by omega, rfl, ?_⟩
      unfold f_X9_in
      rw [if_rng hj hl hh, if_pos ⟨g', by omega⟩]
    · right
      have hx : nI j < nI lo := nI_lt (by omega) hl
      refine ⟨?_, Or.inl hx, fun i h1 h2 w => ?_⟩
      · unfold f_X9_in
        rw [if_pos hx]
      · have := (nI_eq hj (by omega)).mp w
        omega
  · subst e
    right
    refine ⟨?_, ?_, fun i h1 h2 w => ?_⟩
    · unfold f_X9_in
      rw [if_rng hj hl hh, if_neg (by omega)]
    · by_cases g' : j < lo
      · exact Or.inl (nI_lt g' hl)
      · exact Or.inr ⟨nI_nlt (by omega) hj, nI_lt (by omega) hj⟩
    · have := (nI_eq hj (by omega)).mp w
      omega
theorem c_ce (x : Int32) : (∃ i, i < 16 ∧ x = nI i ∧ f_X8_noCell x = some 0 ∧ f_X9_in x 0 15 = some 1) ∨ (f_X8_noCell x = some 1 ∧ f_X9_in x 0 15 = some 0) := by
  unfold f_X8_noCell
  rcases c_in x 0 15 (by decide) (by decide) with ⟨i, i1, i2, i3, i4⟩ | ⟨i1, i2, i3⟩
  · left
    refine ⟨i, by omega, i3, ?_, i4⟩
    subst i3
    rw [if_neg (nI_pos (by omega)), if_pos (show nI i < 16 from nI_lt (b := 16) (by omega) (by decide))]
  · right
    refine ⟨?_, i1⟩
    by_cases g : x < 0
    · rw [if_pos g]
    · rw [if_neg g]
      rcases i2 with i2 | ⟨_, i2⟩
      · exact absurd i2 g
      · rw [if_neg]
        obtain ⟨j, hj, e⟩ := nI_of g
        subst e
        have := (nI_ltI (a := 15) (by decide) hj).mp i2
        exact nI_nlt (b := 16) (by omega) hj
theorem c_si (x : Int32) : (∃ i, 2 ≤ i ∧ i ≤ 15 ∧ x = nI i ∧ f_X8_noSize x = some 0 ∧ f_X9_in x 2 15 = some 1) ∨ (f_X8_noSize x = some 1 ∧ f_X9_in x 2 15 = some 0) := by
  unfold f_X8_noSize
  rcases c_in x 2 15 (by decide) (by decide) with ⟨i, i1, i2, i3, i4⟩ | ⟨i1, i2, i3⟩
  · left
    refine ⟨i, i1, i2, i3, ?_, i4⟩
    subst i3
    rw [if_neg (show ¬ nI i < 2 from nI_nlt (b := 2) i1 (by omega)), if_pos (show nI i ≤ 15 from nI_le (b := 15) i2 (by decide))]
  · right
    refine ⟨?_, i1⟩
    rcases i2 with i2 | ⟨i2, i4⟩
    · rw [if_pos (show x < 2 from i2)]
    · rw [if_neg (show ¬ x < 2 from i2), if_neg]
      intro w
      have i4' : (15 : Int32) < x := i4
      rw [Int32.lt_iff_toInt_lt] at i4'
      rw [Int32.le_iff_toInt_le] at w
      omega
theorem c_lm (x : Int32) : (∃ i, 1 ≤ i ∧ i ≤ 24 ∧ x = nI i ∧ f_X8_noLimit x = some 0 ∧ f_X9_in x 1 24 = some 1) ∨ (f_X8_noLimit x = some 1 ∧ f_X9_in x 1 24 = some 0) := by
  unfold f_X8_noLimit
  rcases c_in x 1 24 (by decide) (by decide) with ⟨i, i1, i2, i3, i4⟩ | ⟨i1, i2, i3⟩
  · left
    refine ⟨i, i1, i2, i3, ?_, i4⟩
    subst i3
    rw [if_neg (show ¬ nI i < 1 from nI_nlt (b := 1) i1 (by omega)), if_pos (show nI i ≤ 24 from nI_le (b := 24) i2 (by decide))]
  · right
    refine ⟨?_, i1⟩
    rcases i2 with i2 | ⟨i2, i4⟩
    · rw [if_pos (show x < 1 from i2)]
    · rw [if_neg (show ¬ x < 1 from i2), if_neg]
      intro w
      have i4' : (24 : Int32) < x := i4
      rw [Int32.lt_iff_toInt_lt] at i4'
      rw [Int32.le_iff_toInt_le] at w
      omega
section QC
variable {m b sc c t p z e h d : Pic} {rs : Nat → Option Q4} {st bg nd no : Nat} {X : Nat → Nat}
theorem TLX.m0 (L : TLX st bg nd no X m sc t p z e h rs d) : ¬ gS m 2 = 0 ∧ ¬ gS d 19 = 0 := by
  rw [L.1.1, L.1.2]; exact ⟨by decide, by decide⟩
theorem c_pg (H : RLX m b sc c t p z e h rs d) (x : Int32) : (f_X8_noPage m x = some 1 ∧ f_X9_isPage d x = some 0) ∨ (∃ q st bg nd no X, q < 30 ∧ x = nI q ∧ f_X8_noPage m x = some 0 ∧ f_X9_isPage d x = some 1 ∧ TLX st bg nd no X m sc t p z e h rs d) := by
  unfold f_X8_noPage f_X9_isPage
  rcases H.2.2.2.2 with U | ⟨st, bg, nd, no, X, L⟩
  · left
    rw [if_pos U.1, if_pos U.2.1]
    exact ⟨rfl, rfl⟩
  · rw [if_neg L.m0.1, if_neg L.m0.2]
    rcases c_in x 0 29 (by decide) (by decide) with ⟨i, i1, i2, i3, i4⟩ | ⟨i1, i2, i3⟩
    · right
      refine ⟨i, st, bg, nd, no, X, by omega, i3, ?_, ?_, L⟩
      · subst i3
        rw [if_neg (nI_pos (by omega)), if_pos (show nI i < 30 from nI_lt (b := 30) (by omega) (by decide))]
      · rw [show f_X9_in x 0 29 = some 1 from i4, bs, if_neg (by decide)]
    · left
      refine ⟨?_, by rw [show f_X9_in x 0 29 = some 0 from i1, bs, if_pos rfl]⟩
      by_cases g : x < 0
      · rw [if_pos g]
      · rw [if_neg g]
        rcases i2 with i2 | ⟨_, i2⟩
        · exact absurd i2 g
        · rw [if_neg]
          obtain ⟨j, hj, e⟩ := nI_of g
          subst e
          have := (nI_ltI (a := 29) (by decide) hj).mp i2
          exact nI_nlt (b := 30) (by omega) hj
theorem c_da (H : RLX m b sc c t p z e h rs d) (x : Int32) : (f_X8_noData m sc x = some 1 ∧ f_X9_isData d x = some 0) ∨ (∃ k st bg nd no X, k < nd ∧ x = nI k ∧ f_X8_noData m sc x = some 0 ∧ f_X9_isData d x = some 1 ∧ TLX st bg nd no X m sc t p z e h rs d) := by
  unfold f_X8_noData f_X9_isData
  rcases H.2.2.2.2 with U | ⟨st, bg, nd, no, X, L⟩
  · left
    rw [if_pos U.1, if_pos U.2.1]
    exact ⟨rfl, rfl⟩
  · have hnd := L.2.1.2.2.1
    rw [if_neg L.m0.1, if_neg L.m0.2, L.2.2.2.1.2.2.1, L.2.2.1.2.2.1]
    rcases rng x nd with g | ⟨j, g, e, hj⟩ | ⟨j, g, hj, e⟩
    · left
      rw [if_pos g, if_pos g]
      exact ⟨rfl, rfl⟩
    · right
      subst e
      refine ⟨j, st, bg, nd, no, X, g, rfl, ?_, ?_, L⟩
      · rw [if_neg (nI_pos hj), if_pos (nI_lt g (by omega))]
      · rw [if_neg (nI_pos hj), if_neg (nI_ge g (by omega))]
    · left
      subst e
      rw [if_neg (nI_pos hj), if_neg (nI_pos hj), if_neg (nI_nlt g hj), if_pos (nI_le g hj)]
      exact ⟨rfl, rfl⟩
theorem c_zo (H : RLX m b sc c t p z e h rs d) (x : Int32) : (f_X8_noZone m t p z x = some 1 ∧ f_X9_isZone d x = some 0) ∨ (∃ j st bg nd no X, j < 24 ∧ x = nI j ∧ 0 < clX X j ∧ f_X8_noZone m t p z x = some 0 ∧ f_X9_isZone d x = some 1 ∧ TLX st bg nd no X m sc t p z e h rs d) := by
  unfold f_X8_noZone f_X9_isZone
  rcases H.2.2.2.2 with U | ⟨st, bg, nd, no, X, L⟩
  · left
    rw [if_pos U.1, if_pos U.2.1]
    exact ⟨rfl, rfl⟩
  · have R := L.2.2.2.2.2.1
    rw [if_neg L.m0.1, if_neg L.m0.2]
    rcases c_in x 0 23 (by decide) (by decide) with ⟨i, i1, i2, i3, i4⟩ | ⟨i1, i2, i3⟩
    · subst i3
      have hz := z_has R.2.2.1 R.2.2.2.zw (j := i) (by omega)
      have hx : rA d 20 1234 (796 + nI i) = some (nI (clX X i)) := by
        rw [show (796 : Int32) = nI 796 from rfl, nI_add, m_x R.1 (by omega)]; rfl
      have hc := (R.2.2.2.zw i (by omega)).1
      rw [hz, show f_X9_in (nI i) 0 23 = some 1 from i4, bs, bs, if_neg (show ¬ (1 : Int32) = 0 by decide), hx, bs]
      by_cases g : clX X i = 0
      · left
        rw [if_pos g, if_pos rfl, if_pos (by rw [g]; decide)]
        exact ⟨rfl, rfl⟩
      · right
        refine ⟨i, st, bg, nd, no, X, by omega, rfl, by omega, ?_, ?_, L⟩
        · rw [if_neg g, if_neg (by decide)]
        · rw [if_neg (nI_nle (by omega) (by omega))]
    · left
      rw [show f_X9_in x 0 23 = some 0 from i1, bs, if_pos rfl]
      refine ⟨?_, rfl⟩
      have : f_X7_has z x = some 0 := by
        unfold f_X7_has
        by_cases g : x < 0
        · rw [if_pos g]
        · rw [if_neg g]
          rcases i2 with i2 | ⟨_, i2⟩
          · exact absurd i2 g
          · obtain ⟨j, hj, e⟩ := nI_of g
            subst e
            have := (nI_ltI (a := 23) (by decide) hj).mp i2
            rw [if_pos (show (24 : Int32) ≤ nI j from nI_le (a := 24) (by omega) hj)]
      rw [this, bs, if_pos rfl]
theorem cl_0 : ∀ st, st < 5 → 0 < st → ∀ s, s < 17 → 0 < s → f_X0_isClass (nI s) (nI st) = some (if s % st = 0 then 1 else 0) ∧ rmI (nI s) (nI st) = some (nI (s % st)) := by decide +kernel
theorem c_cl (H : RLX m b sc c t p z e h rs d) (x : Int32) : (f_X8_noClass m t p x = some 1 ∧ f_X9_isClass d x = some 0) ∨ (∃ s st bg nd no X, s < 17 ∧ 0 < s ∧ s % st = 0 ∧ x = nI s ∧ f_X8_noClass m t p x = some 0 ∧ f_X9_isClass d x = some 1 ∧ TLX st bg nd no X m sc t p z e h rs d) := by
  unfold f_X8_noClass f_X9_isClass
  rcases H.2.2.2.2 with U | ⟨st, bg, nd, no, X, L⟩
  · left
    rw [if_pos U.1, if_pos U.2.1]
    exact ⟨rfl, rfl⟩
  · have S := L.2.2.2.2.2.2.2.1
    have hst := L.2.1.1
    rw [if_neg L.m0.1, if_neg L.m0.2, S.2.1, L.2.2.1.1]
    rcases c_in x 1 16 (by decide) (by decide) with ⟨i, i1, i2, i3, i4⟩ | ⟨i1, i2, i3⟩
    · subst i3
      obtain ⟨k1, k2⟩ := cl_0 st (by omega) (by omega) i (by omega) (by omega)
      have hlt : i % st < 2 ^ 31 := Nat.lt_of_le_of_lt (Nat.mod_le _ _) (by omega)
      rw [k1, show f_X9_in (nI i) 1 16 = some 1 from i4, bs, bs, if_neg (show ¬ (1 : Int32) = 0 by decide), k2, bs]
      by_cases g : i % st = 0
      · right
        refine ⟨i, st, bg, nd, no, X, by omega, by omega, g, rfl, ?_, ?_, L⟩
        · rw [if_pos g, if_neg (by decide)]
        · rw [g, if_pos (by decide)]
      · left
        rw [if_neg g, if_pos rfl, if_neg (fun w => g ((nI_e0 hlt).mp w))]
        exact ⟨rfl, rfl⟩
    · left
      rw [show f_X9_in x 1 16 = some 0 from i1, bs, if_pos rfl]
      refine ⟨?_, rfl⟩
      have : f_X0_isClass x (nI st) = some 0 := by
        unfold f_X0_isClass
        rcases i2 with i2 | ⟨i2, i4⟩
        · rw [if_pos (show x < 1 from i2)]
        · rw [if_neg (show ¬ x < 1 from i2), if_pos (show (16 : Int32) < x from i4)]
      rw [this, bs, if_pos rfl]
theorem rA_c {q : Pic} {k n j : Nat} {v : Int32} (h : j < n) (hn : n < 2 ^ 31) (e : q.2 k j = v) : rA q k n (nI j) = some v := by rw [rA_n h hn, e]
theorem m_xv {d : Pic} {X : Nat → Nat} (h : MX d X) {i : Int32} {j : Nat} (e : i = nI j) (hj : j < 1234) : rA d 20 1234 i = some (nI (X j)) := by rw [e, m_x h hj]
theorem num_a {a b : Nat} (x y : Int32) (hx : x = nI a) (hy : y = nI b) : x + y = nI (a + b) := by rw [hx, hy, nI_add]
end QC
