/-! (B) onDisk, and the start -/
/-- the i-th page on disk, out of the places themselves -/
def odC (P : Nat → Int32) : Nat → Nat → Nat → Int32 → Option Nat
  | 0, _, _, _ => none
  | k + 1, q, a, x => if P q = 3 then (if nI a = x then some q else odC P k (q + 1) (a + 1) x) else odC P k (q + 1) a x
theorem odC_N {P : Nat → Int32} {X : Nat → Nat} (hp : ∀ q, q < 30 → P q = nI (X (165 + q)) ∧ X (165 + q) < 2 ^ 31) (x : Int32) : ∀ (k q a : Nat), q + k = 30 → odC P k q a x = odN X k q a x := by
  intro k
  induction k with
  | zero => intro q a h; rfl
  | succ k ih =>
    intro q a h
    unfold odC odN
    have hq := hp q (by omega)
    rw [hq.1]
    by_cases g : X (165 + q) = 3
    · rw [if_pos (by rw [g]; rfl), if_pos g, ih (q + 1) (a + 1) (by omega)]
    · rw [if_neg (fun w => g ((nI_e3 hq.2).mp w)), if_neg g, ih (q + 1) a (by omega)]
theorem odC_0 {P : Nat → Int32} (hp : ∀ q, q < 30 → P q = 0) (x : Int32) : ∀ (k q a : Nat), q + k = 30 → odC P k q a x = none := by
  intro k
  induction k with
  | zero => intro q a h; rfl
  | succ k ih =>
    intro q a h
    unfold odC
    rw [hp q (by omega), if_neg (by decide), ih (q + 1) a (by omega)]
theorem RLX.d01 {m b sc c t p z e h d : Pic} {rs : Nat → Option Q4} (H : RLX m b sc c t p z e h rs d) (x : Int32) : RLX m b sc c t p z e h rs (pS d 0 x) := by
  obtain ⟨⟨a1, a2, a3⟩, ⟨tl, T, b1, b2, b3, b4⟩, h3, h4, h5⟩ := H
  exact ⟨⟨a1, a2, a3⟩, ⟨tl, T, b1, b2, b3, b4⟩, h3, h4, h5.fr rfl KD.z.kx⟩
theorem q_onDisk {m b sc c t p z e h d : Pic} {rs : Nat → Option Q4} (H : RLX m b sc c t p z e h rs d) (x : Int32) : ∃ v d', f_X9_onDisk d x = some (v, d') ∧ RLX m b sc c t p z e h rs d' ∧ ((∃ q, odC (p.2 4) 30 0 0 x = some q ∧ v = nI q ∧ gS d' 0 = 0) ∨ (odC (p.2 4) 30 0 0 x = none ∧ gS d' 0 = 1)) := by
  rcases H.2.2.2.2 with U | ⟨st, bg, nd, no, X, L⟩
  · refine ⟨0, pS (pS d 0 0) 0 1, ?_, H.d0.d01 1, Or.inr ⟨odC_0 U.2.2.2.2.2 x 30 0 0 rfl, gS_s⟩⟩
    unfold f_X9_onDisk
    rw [bs]
    show b_X9_onDisk_9 x _ (pS d 0 0) 0 0 = _
    unfold b_X9_onDisk_9
    rw [if_pos (by rw [gS_n (by decide)]; exact U.2.1)]
    rfl
  · have L0 := L.fr (m' := m) rfl (KD.z (d := d) (x := 0)).kx
    have h19 : ¬ gS (pS d 0 0) 19 = 0 := by rw [L0.1.2]; decide
    have R := L0.2.2.2.2.2.1
    have e1 := m_od R h19 x 30 0 0 FU rfl (by decide)
    have e2 := odC_N (P := p.2 4) (X := X) (fun q hq => ⟨R.2.1.1 q hq, R.2.2.2.sml _ (by omega)⟩) x 30 0 0 rfl
    have e3 : f_X9_onDisk d x = L_X9_onDisk_9 x FU (pS d 0 0) (nI 0) (nI 0) := by
      unfold f_X9_onDisk
      rw [bs]
      rfl
    cases g : odN X 30 0 0 x with
    | none =>
      rw [g] at e1 e2
      exact ⟨0, _, e3.trans e1, H.d0.d01 1, Or.inr ⟨e2, gS_s⟩⟩
    | some q =>
      rw [g] at e1 e2
      exact ⟨nI q, _, e3.trans e1, H.d0, Or.inl ⟨q, e2, rfl, gS_s⟩⟩
theorem rlx_start : RLX P0 P0 PL P0 P0 PL P0 P0 P0 (fun _ => none) PM := by
  refine ⟨⟨rfl, rfl, ?_⟩, ⟨0, fun _ => 0, rfl, rfl, by decide, fun j _ => ⟨Nat.zero_lt_succ _, rfl, show (0 : Int32) &&& 255 = nI 0 by decide⟩⟩, fun j _ => ⟨0, by decide, rfl⟩, ⟨rfl, rfl⟩, Or.inl ⟨rfl, rfl, rfl, rfl, ⟨0, rfl, by decide⟩, fun q _ => rfl⟩⟩
  rw [if_neg (show ¬ gS P0 3 = 4 by decide)]
  rfl
