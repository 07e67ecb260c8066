/-! (B) putIn, freeNumber, lastPage; moves -/
theorem loop_fs {R : Type} {L : Nat → Int32 → Option R} {fin : Nat → Option R} {P : Nat → Bool} {m : Nat}
    (hs : ∀ n z, z < m → L (n + 1) (nI z) = if P z = true then fin z else L n (nI (z + 1))) :
    ∀ (k z n i : Nat), z + k ≤ m → k ≤ n → fnd P k z = some i → L n (nI z) = fin i := by
  intro k
  induction k with
  | zero => intro z n i _ _ h; cases h
  | succ k ih =>
    intro z n i h1 h2 h
    cases n with
    | zero => omega
    | succ n =>
      rw [hs n z (by omega)]
      unfold fnd at h
      by_cases e : P z = true
      · rw [if_pos e] at h ⊢; cases h; rfl
      · rw [if_neg e] at h ⊢; exact ih (z + 1) n i (by omega) (by omega) h
def lst (P : Nat → Bool) : Nat → Option Nat
  | 0 => none
  | k + 1 => if P k = true then some k else lst P k
theorem lst_some {P : Nat → Bool} : ∀ {k i : Nat}, lst P k = some i → i < k ∧ P i = true
  | 0, _, h => by cases h
  | k + 1, i, h => by
    unfold lst at h
    by_cases e : P k = true
    · rw [if_pos e] at h; cases h; exact ⟨by omega, e⟩
    · rw [if_neg e] at h
      have := lst_some h
      exact ⟨by omega, this.2⟩
theorem lst_none {P : Nat → Bool} : ∀ {k : Nat}, lst P k = none → ∀ i, i < k → P i = false
  | 0, _, _, h => by omega
  | k + 1, h, i, hi => by
    unfold lst at h
    by_cases e : P k = true
    · rw [if_pos e] at h; cases h
    · rw [if_neg e] at h
      by_cases q : i = k
      · subst q; simpa using e
      · exact lst_none h i (by omega)
theorem nI_dec (k : Nat) : nI (k + 1) + (-1) = nI k := by
  rw [nI_succ, Int32.add_assoc, show (1 : Int32) + -1 = 0 by decide, Int32.add_zero]
section ZQ
variable {d z : Pic} {X : Nat → Nat}
theorem z_ins (h : ZR z X) (hw : ZW X) (hl : Sml X) {s j i p : Nat} (x2 : Int32) (hj : j < 24) (hc : clX X j = s) (hs : s < 17) (hi : fsX X s j = some i) : ∃ z', L_X7_putIn_66 (nI j) x2 (nI p) FU z 0 = some (nI i, z') ∧ ZR z' (va_up X (820 + 16 * j + i) (p + 1)) := by
  have hs16 := sl16 _ hs
  obtain ⟨-, hi1, hi2⟩ := fnd_some hi
  have hi2 : slX X j i = 0 := by simpa using hi2
  have f1 := fil_ups (X := X) (v := p + 1) (j := j) (k := i) (by omega)
  rw [if_pos hi2, if_neg (by omega)] at f1
  have key : L_X7_putIn_66 (nI j) x2 (nI p) FU z (nI 0) = ((wA z 5 384 (nI (j * 16 + i)) (nI p)).bind fun z4 => (rA z4 4 24 (nI j)).bind fun v5 => (wA z4 4 24 (nI j) (v5 + 1)).bind fun z6 => some (nI i, z6)) := by
    refine loop_fs (L := fun n v => L_X7_putIn_66 (nI j) x2 (nI p) n z v) (fin := fun i => (wA z 5 384 (nI (j * 16 + i)) (nI p)).bind fun z4 => (rA z4 4 24 (nI j)).bind fun v5 => (wA z4 4 24 (nI j) (v5 + 1)).bind fun z6 => some (nI i, z6)) (P := fun i => decide (slX X j i = 0)) (m := slN s) (fun n k hk => ?_) (slN s) 0 FU i (by omega) (by unfold FU; omega) hi
    show b_X7_putIn_66 (nI j) x2 (nI p) (L_X7_putIn_66 (nI j) x2 (nI p) n) z (nI k) = _
    unfold b_X7_putIn_66
    have hlt : slX X j k < 2 ^ 31 := hl (820 + 16 * j + k) (by omega)
    rw [rA_n hj (by decide), bs, (h.2.1 j hj).2.2.1, hc, if_neg (nI_ge hk (by omega)), li 16, if_neg (nI_ge (show k < 16 by omega) (by decide)), nI_mul, nI_add, rA_n (by omega) (by decide), bs, h.2.2 j k hj (by omega), nI_1]
    by_cases e : slX X j k = 0
    · rw [if_neg (fun q => (pg_neg hlt).mp q e), if_pos (by simpa using e)]
    · rw [if_pos ((pg_neg hlt).mpr e), if_neg (by simpa using e)]
  obtain ⟨z4, w4, a4, b4, c4⟩ := wA_e (p := z) 5 (n := 384) (j := j * 16 + i) (nI p) (by omega) (by decide)
  obtain ⟨z6, w6, a6, b6, c6⟩ := wA_e (p := z4) 4 (n := 24) (nI (filX X j) + 1) hj (by decide)
  refine ⟨z6, ?_, ?_⟩
  · show L_X7_putIn_66 (nI j) x2 (nI p) FU z (nI 0) = _
    rw [key, w4, bs, rA_n hj (by decide), bs, c4 4 (by decide), (h.2.1 j hj).2.2.2, w6]
    rfl
  · refine ZR.slot h hj (by omega) (by rw [a6, a4]) (by rw [c6 1 (by decide), c4 1 (by decide)]) (by rw [c6 2 (by decide), c4 2 (by decide)]) (by rw [c6 3 (by decide), c4 3 (by decide)]) ?_ (by rw [c6 5 (by decide), b4]; rfl)
    rw [b6, c4 4 (by decide), nI_1]
    exact congrArg (fun t => upd (z.2 4) j (nI t)) (by omega)
theorem z_put (h : ZR z X) (hw : ZW X) (hl : Sml X) {s j i p : Nat} (hj : j < 24) (hc : clX X j = s) (hs : s < 17) (h0 : 0 < s) (hi : fsX X s j = some i) : ∃ z', f_X7_putIn z (nI j) (nI s) (nI p) = some (nI i, z') ∧ ZR z' (va_up X (820 + 16 * j + i) (p + 1)) := by
  obtain ⟨z', e1, e2⟩ := z_ins h hw hl (nI s) (p := p) hj hc hs hi
  refine ⟨z', ?_, e2⟩
  unfold f_X7_putIn
  rw [if_neg (nI_pos (by omega)), li 24, if_pos (nI_lt hj (by decide)), rA_n hj (by decide), bs, (h.2.1 j hj).1, hc, if_neg (nI_ne0 h0 (by omega))]
  exact e1
theorem z_new (h : ZR z X) (hw : ZW X) (hl : Sml X) {s j i p : Nat} (hj : j < 24) (hc : clX X j = 0) (hs : s < 17) (h0 : 0 < s) (hi : fsX (va_up X (796 + j) s) s j = some i) : ∃ z', f_X7_putIn z (nI j) (nI s) (nI p) = some (nI i, z') ∧ ZR z' (va_up (va_up X (796 + j) s) (820 + 16 * j + i) (p + 1)) := by
  unfold f_X7_putIn
  rw [if_neg (nI_pos (by omega)), li 24, if_pos (nI_lt hj (by decide)), rA_n hj (by decide), bs, (h.2.1 j hj).1, hc, if_pos nI_0]
  obtain ⟨z7, w7, a7, b7, c7⟩ := wA_e (p := z) 1 (n := 24) (nI s) hj (by decide)
  rw [w7, bs, X0_fr s hs, bs]
  obtain ⟨z9, w9, a9, b9, c9⟩ := wA_e (p := z7) 2 (n := 24) (nI (frN s)) hj (by decide)
  rw [w9, bs, X0_sl s hs, bs]
  obtain ⟨zt, wt, at_, bt, ct⟩ := wA_e (p := z9) 3 (n := 24) (nI (slN s)) hj (by decide)
  rw [wt, bs, rA_n hj (by decide), bs, ct 2 (by decide), b9, up_s, bs]
  obtain ⟨zf, wf, af, bf, cf⟩ := pS_e zt 0 (gS zt 0 + nI (frN s))
  rw [wf]
  have g := frs_ups (X := X) (v := s) hj
  rw [hc, fr_0.1] at g
  have hz : ZR zf (va_up X (796 + j) s) := by
    refine h.cls hj ?_ ?_ ?_ ?_ ?_ ?_
    · show gS zf 0 = _
      rw [af]
      show zt.1 0 + _ = _
      rw [at_, a9, a7, h.1, nI_add]
      exact congrArg nI (by omega)
    · rw [cf, ct 1 (by decide), c9 1 (by decide), b7]
    · rw [cf, ct 2 (by decide), b9, c7 2 (by decide)]
    · rw [cf, bt, c9 3 (by decide), c7 3 (by decide)]
    · rw [cf, ct 4 (by decide), c9 4 (by decide), c7 4 (by decide)]
    · rw [cf, ct 5 (by decide), c9 5 (by decide), c7 5 (by decide)]
  have hwz : ZW (va_up X (796 + j) s) := by
    intro k hk
    by_cases e : k = j
    · subst e
      rw [cl_ups, fil_up (fun q hq => by omega)]
      have := (hw k hk).2
      rw [hc, fr_0.2] at this
      exact ⟨hs, by omega⟩
    · rw [cl_up (by omega), fil_up (fun q hq => by omega)]
      exact hw k hk
  exact z_ins hz hwz (hl.up (by omega)) (nI s) (p := p) hj cl_ups hs hi
/-- the least number that no zone has -/
def fzX (X : Nat → Nat) : Option Nat := fnd (fun j => decide (clX X j = 0)) 24 0
theorem z_fz (h : ZR z X) (hw : ZW X) : f_X7_freeNumber z = some (oI (fzX X)) := by
  refine loop_fn (L := L_X7_freeNumber_2 z) (fin := fun o => some (oI o)) (P := fun j => decide (clX X j = 0)) (m := 24) (fun n => ?_) (fun n i hi => ?_) 24 0 FU (by omega) (FU_ge (by omega))
  · show b_X7_freeNumber_2 z _ (nI 24) = _
    unfold b_X7_freeNumber_2
    rw [li 24, if_pos (nI_le (Nat.le_refl _) (by decide))]
    rfl
  · show b_X7_freeNumber_2 z _ (nI i) = _
    unfold b_X7_freeNumber_2
    have := (hw i hi).1
    rw [li 24, if_neg (nI_ge hi (by decide)), rA_n hi (by decide), bs, (h.2.1 i hi).1, nI_1]
    by_cases e : clX X i = 0
    · rw [if_pos (by rw [e]; rfl), if_pos (by simpa using e)]
      rfl
    · rw [if_neg (nI_ne0 (by omega) (by omega)), if_neg (by simpa using e)]
theorem m_fz (h : MX d X) (hw : ZW X) {j : Nat} (hj : fzX X = some j) : f_X9_freeZone d = some (nI j) := by
  refine loop_fs (L := L_X9_freeZone_2 d) (fin := fun o => some (nI o)) (P := fun j => decide (clX X j = 0)) (m := 24) (fun n i hi => ?_) 24 0 FU j (by omega) (by unfold FU; omega) hj
  show b_X9_freeZone_2 d _ (nI i) = _
  unfold b_X9_freeZone_2
  have := (hw i hi).1
  rw [m_cl h hi, bs, nI_1]
  by_cases e : clX X i = 0
  · rw [if_pos (by rw [e]; decide), if_pos (by simpa using e)]
  · rw [if_neg (nI_nle (by omega) (by omega)), if_neg (by simpa using e)]
/-- the last slot of a zone that isn't free -/
def lsX (X : Nat → Nat) (j : Nat) : Option Nat := lst (fun i => decide (slX X j i ≠ 0)) 16
theorem z_last (h : ZR z X) (hw : ZW X) (hl : Sml X) {j i : Nat} (hj : j < 24) (hc : 0 < clX X j) (hi : lsX X j = some i) : f_X7_lastPage z (nI j) = some (pgI (slX X j i)) := by
  have key : ∀ (k n : Nat), k < 17 → k < n → ∀ i, lst (fun i => decide (slX X j i ≠ 0)) (k + 1) = some i → k < 16 → L_X7_lastPage_3 z (nI j) n (nI k) = some (pgI (slX X j i)) := by
    intro k
    induction k with
    | zero =>
      intro n _ hn i hi _
      cases n with
      | zero => omega
      | succ n =>
        show b_X7_lastPage_3 z (nI j) _ (nI 0) = _
        unfold b_X7_lastPage_3
        unfold lst at hi
        have hlt : slX X j 0 < 2 ^ 31 := hl (820 + 16 * j + 0) (by omega)
        by_cases e : slX X j 0 ≠ 0
        · rw [if_pos (by simpa using e)] at hi
          cases hi
          rw [if_neg (nI_pos (by decide)), z_has h hw hj, bs, if_neg (show ¬ clX X j = 0 by omega), if_neg (by decide), li 16, nI_mul, nI_add, rA_n (by omega) (by decide), bs, h.2.2 j 0 hj (by omega), if_neg (Int32.not_lt.mpr ((pg_neg hlt).mpr e)), bs]
        · rw [if_neg (by simpa using e)] at hi
          cases hi
    | succ k ih =>
      intro n hk hn i hi hk16
      cases n with
      | zero => omega
      | succ n =>
        show b_X7_lastPage_3 z (nI j) _ (nI (k + 1)) = _
        unfold b_X7_lastPage_3
        unfold lst at hi
        have hlt : slX X j (k + 1) < 2 ^ 31 := hl (820 + 16 * j + (k + 1)) (by omega)
        rw [if_neg (nI_pos (by omega)), z_has h hw hj, bs, if_neg (show ¬ clX X j = 0 by omega), if_neg (by decide), li 16, nI_mul, nI_add, rA_n (by omega) (by decide), bs, h.2.2 j (k + 1) hj (by omega), nI_dec]
        by_cases e : slX X j (k + 1) ≠ 0
        · rw [if_pos (by simpa using e)] at hi
          cases hi
          rw [if_neg (Int32.not_lt.mpr ((pg_neg hlt).mpr e)), bs]
        · rw [if_neg (by simpa using e)] at hi
          have e0 : ¬ 0 ≤ pgI (slX X j (k + 1)) := fun q => e ((pg_neg hlt).mp q)
          rw [if_pos (Int32.not_le.mp e0)]
          exact ih n (by omega) (by omega) i hi (by omega)
  exact key 15 FU (by omega) (by unfold FU; omega) i hi (by omega)
end ZQ
