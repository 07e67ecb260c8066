/-! (B) the first that is so; a page comes into a zone -/
def fnd (P : Nat → Bool) : Nat → Nat → Option Nat
  | 0, _ => none
  | k + 1, z => if P z = true then some z else fnd P k (z + 1)
theorem fnd_some {P : Nat → Bool} : ∀ {k z i : Nat}, fnd P k z = some i → z ≤ i ∧ i < z + k ∧ P i = true
  | 0, _, _, h => by cases h
  | k + 1, z, i, h => by
    unfold fnd at h
    by_cases e : P z = true
    · rw [if_pos e] at h; cases h; exact ⟨by omega, by omega, e⟩
    · rw [if_neg e] at h
      have := fnd_some h
      exact ⟨by omega, by omega, this.2.2⟩
theorem fnd_none {P : Nat → Bool} : ∀ {k z : Nat}, fnd P k z = none → ∀ i, z ≤ i → i < z + k → P i = false
  | 0, _, _, _, h1, h2 => by omega
  | k + 1, z, h, i, h1, h2 => by
    unfold fnd at h
    by_cases e : P z = true
    · rw [if_pos e] at h; cases h
    · rw [if_neg e] at h
      by_cases q : i = z
      · subst q; simpa using e
      · exact fnd_none h i (by omega) (by omega)
theorem fnd_congr {P Q : Nat → Bool} : ∀ (k z : Nat), (∀ i, z ≤ i → i < z + k → P i = Q i) → fnd P k z = fnd Q k z
  | 0, _, _ => rfl
  | k + 1, z, h => by
    unfold fnd
    rw [h z (by omega) (by omega), fnd_congr k (z + 1) (fun i a b => h i (by omega) (by omega))]
theorem fnd_more {P : Nat → Bool} {i : Nat} : ∀ {k z : Nat} (n : Nat), fnd P k z = some i → fnd P (k + n) z = some i
  | 0, _, _, h => by cases h
  | k + 1, z, n, h => by
    rw [show k + 1 + n = (k + n) + 1 by omega]
    unfold fnd at h ⊢
    by_cases e : P z = true
    · rw [if_pos e] at h ⊢; exact h
    · rw [if_neg e] at h ⊢; exact fnd_more n h
theorem loop_fn {R : Type} {L : Nat → Int32 → Option R} {fin : Option Nat → Option R} {P : Nat → Bool} {m : Nat}
    (hx : ∀ n, L (n + 1) (nI m) = fin none) (hs : ∀ n z, z < m → L (n + 1) (nI z) = if P z = true then fin (some z) else L n (nI (z + 1))) :
    ∀ (k z n : Nat), z + k = m → k < n → L n (nI z) = fin (fnd P k z) := by
  intro k
  induction k with
  | zero =>
    intro z n h1 h2
    cases n with
    | zero => omega
    | succ n =>
      have : z = m := by omega
      subst this
      exact hx n
  | succ k ih =>
    intro z n h1 h2
    cases n with
    | zero => omega
    | succ n =>
      rw [hs n z (by omega)]
      unfold fnd
      by_cases e : P z = true
      · rw [if_pos e, if_pos e]
      · rw [if_neg e, if_neg e]; exact ih (z + 1) n (by omega) (by omega)
/-- the first free slot of a zone of a class -/
def fsX (X : Nat → Nat) (s j : Nat) : Option Nat := fnd (fun i => decide (slX X j i = 0)) (slN s) 0
theorem sm_ge {f : Nat → Nat} : ∀ (k z : Nat), (∀ i, z ≤ i → i < z + k → 1 ≤ f i) → k ≤ sm f z k
  | 0, _, _ => Nat.zero_le _
  | k + 1, z, h => by
    have h1 := h z (by omega) (by omega)
    have h2 := sm_ge (f := f) k (z + 1) (fun i a b => h i (by omega) (by omega))
    show k + 1 ≤ f z + sm f (z + 1) k
    omega
theorem sm_app {f : Nat → Nat} : ∀ (k m z : Nat), sm f z (k + m) = sm f z k + sm f (z + k) m
  | 0, m, z => by
    rw [Nat.zero_add]
    show _ = 0 + _
    rw [Nat.zero_add, Nat.add_zero]
  | k + 1, m, z => by
    rw [show k + 1 + m = (k + m) + 1 by omega]
    show f z + sm f (z + 1) (k + m) = f z + sm f (z + 1) k + sm f (z + (k + 1)) m
    rw [sm_app k m (z + 1), show z + 1 + k = z + (k + 1) by omega]
    omega
theorem fs_some {X : Nat → Nat} {s j : Nat} (hs : slN s ≤ 16) (h : filX X j < slN s) : ∃ i, fsX X s j = some i ∧ i < slN s ∧ slX X j i = 0 := by
  cases e : fsX X s j with
  | some i =>
    obtain ⟨-, h2, h3⟩ := fnd_some e
    exact ⟨i, rfl, by omega, by simpa using h3⟩
  | none =>
    exfalso
    have h1 := fnd_none e
    have h2 : slN s ≤ sm (fun i => if slX X j i = 0 then 0 else 1) 0 (slN s) := sm_ge _ _ (fun i a b => by
      have := h1 i a b
      rw [if_neg (by simpa using this)]
      exact Nat.le_refl 1)
    have h3 : filX X j = sm (fun i => if slX X j i = 0 then 0 else 1) 0 (slN s) + sm (fun i => if slX X j i = 0 then 0 else 1) (0 + slN s) (16 - slN s) := by
      unfold filX
      rw [← sm_app, show slN s + (16 - slN s) = 16 by omega]
    omega
theorem pg_neg {v : Nat} (hv : v < 2 ^ 31) : (0 ≤ pgI v) ↔ v ≠ 0 := by
  cases v with
  | zero => exact ⟨fun q => absurd q (by decide), fun q => absurd rfl q⟩
  | succ p => exact ⟨fun _ => by omega, fun _ => nI_pos' (by omega)⟩
section ZP
variable {d z : Pic} {X : Nat → Nat}
theorem m_lv (h : MX d X) (hl : Sml X) {p j i : Nat} (hp : p < 30) (hj : X (225 + p) = j) (hi : X (255 + p) = i) (hj' : j < 24) (hi' : i < 16) : ∃ d', f_X9_leaves d (nI p) = some d' ∧ SameX d d' ∧ MX d' (lvX X j i) := by
  unfold f_X9_leaves lvX
  rw [li 225, nI_add, m_x h (by omega), bs, hj, li 255, nI_add, m_x h (by omega), bs, hi, m_at, bs]
  obtain ⟨d4, w4, s4, x4⟩ := m_w h (j := 820 + 16 * j + i) 0 (by omega)
  rw [li 0, w4, bs, m_fil x4 (hl.up (by decide)) hj', bs]
  have := fil_le (va_up X (820 + 16 * j + i) 0) j
  by_cases e : filX (va_up X (820 + 16 * j + i) 0) j = 0
  · rw [if_pos (by rw [e]), if_pos e, li 796, nI_add]
    obtain ⟨d6, w6, s6, x6⟩ := m_w x4 (j := 796 + j) 0 (by omega)
    rw [w6]
    exact ⟨d6, rfl, s4.tr s6, x6⟩
  · rw [if_neg (fun q => e ((nI_eq (by omega) (by decide)).mp q)), if_neg e]
    exact ⟨d4, rfl, s4, x4⟩
theorem m_fs (h : MX d X) (hl : Sml X) {s j : Nat} (hj : j < 24) (hc : clX X j = s) (hs : s < 17) (h0 : 0 < s) : f_X9_freeSlot d (nI j) = some (oI (fsX X s j)) := by
  have hs16 := sl16 _ hs
  refine loop_fn (L := L_X9_freeSlot_2 d (nI j)) (fin := fun o => some (oI o)) (P := fun i => decide (slX X j i = 0)) (m := slN s) (fun n => ?_) (fun n i hi => ?_) (slN s) 0 FU (by omega) (FU_ge (by omega))
  · show b_X9_freeSlot_2 d (nI j) _ (nI (slN s)) = _
    unfold b_X9_freeSlot_2
    rw [m_cl h hj, bs, hc, X9_sl _ hs h0, bs, if_pos (nI_le (Nat.le_refl _) (by omega))]
    rfl
  · show b_X9_freeSlot_2 d (nI j) _ (nI i) = _
    unfold b_X9_freeSlot_2
    rw [m_cl h hj, bs, hc, X9_sl _ hs h0, bs, if_neg (nI_ge hi (by omega)), m_at, bs, m_x h (by omega), bs, nI_1]
    have hlt := hl (820 + 16 * j + i) (by omega)
    by_cases e : X (820 + 16 * j + i) = 0
    · rw [if_pos (by rw [e]; rfl), if_pos (by simpa using (show slX X j i = 0 from e))]
      rfl
    · rw [if_neg (nI_ne0 (by omega) hlt), if_neg (by simpa using (show ¬ slX X j i = 0 from e))]
/-- a page comes into a slot of a zone -/
def inX (X : Nat → Nat) (p j i : Nat) : Nat → Nat := va_up (va_up (va_up (va_up X (820 + 16 * j + i) (p + 1)) (225 + p) j) (255 + p) i) (165 + p) 2
theorem m_in (h : MX d X) (hl : Sml X) {p s j i : Nat} (hp : p < 30) (hj : j < 24) (hc : clX X j = s) (hs : s < 17) (h0 : 0 < s) (hi : fsX X s j = some i) : ∃ d', f_X9_comesInto d (nI p) (nI j) = some d' ∧ SameX d d' ∧ MX d' (inX X p j i) := by
  have hs16 := sl16 _ hs
  have hi16 := (fnd_some hi).2.1
  unfold f_X9_comesInto inX
  rw [m_fs h hl hj hc hs h0, bs, hi]
  show ∃ d', ((f_X9_slotAt (nI j) (nI i)).bind _) = some d' ∧ _
  rw [m_at, bs, li 1, nI_add, li 225, nI_add, li 255, nI_add, li 165, nI_add]
  obtain ⟨d3, w3, s3, x3⟩ := m_w h (j := 820 + 16 * j + i) (p + 1) (by omega)
  rw [w3, bs]
  obtain ⟨d4, w4, s4, x4⟩ := m_w x3 (j := 225 + p) j (by omega)
  rw [w4, bs]
  obtain ⟨d5, w5, s5, x5⟩ := m_w x4 (j := 255 + p) i (by omega)
  show ∃ d', ((wA d4 20 1234 (nI (255 + p)) (nI i)).bind _) = some d' ∧ _
  rw [w5, bs, li 2]
  obtain ⟨d6, w6, s6, x6⟩ := m_w x5 (j := 165 + p) 2 (by omega)
  rw [w6]
  exact ⟨d6, rfl, ((s3.tr s4).tr s5).tr s6, x6⟩
/-- what the zones see of it -/
theorem ZR.in {p j i : Nat} (h : ZR z (va_up X (820 + 16 * j + i) (p + 1))) (hp : p < 30) (hj : j < 24) (hi : i < 16) : ZR z (inX X p j i) := by
  have key : ∀ (Y : Nat → Nat) (q v : Nat), q < 796 → ZR z Y → ZR z (va_up Y q v) := by
    intro Y q v hq hz
    refine ⟨by rw [frs_up (fun k hk => by omega)]; exact hz.1, fun k hk => ?_, fun k r hk hr => ?_⟩
    · rw [cl_up (by omega), fil_up (fun r hr => by omega)]; exact hz.2.1 k hk
    · rw [sl_up (by omega)]; exact hz.2.2 k r hk hr
  exact key _ _ _ (by omega) (key _ _ _ (by omega) (key _ _ _ (by omega) h))
end ZP
