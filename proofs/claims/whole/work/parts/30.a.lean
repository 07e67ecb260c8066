/-! (B) numbers and pictures -/
theorem rA_n {p : Pic} {k n j : Nat} (h : j < n) (hn : n < 2 ^ 31) : rA p k n (nI j) = some (p.2 k j) := by
  unfold rA
  rw [if_neg (nI_in h hn), nI_clamp (by omega)]
theorem wA_n {p : Pic} {k n j : Nat} {v : Int32} (h : j < n) (hn : n < 2 ^ 31) : wA p k n (nI j) v = some (p.1, va_up p.2 k (upd (p.2 k) j v)) := by
  unfold wA
  rw [if_neg (nI_in h hn), nI_clamp (by omega)]
theorem vu_s {α : Type} {f : Nat → α} {k : Nat} {v : α} : va_up f k v k = v := if_pos rfl
theorem vu_n {α : Type} {f : Nat → α} {k j : Nat} {v : α} (h : j ≠ k) : va_up f k v j = f j := if_neg h
theorem up_s {f : Nat → Int32} {k : Nat} {v : Int32} : upd f k v k = v := if_pos rfl
theorem up_n {f : Nat → Int32} {k j : Nat} {v : Int32} (h : j ≠ k) : upd f k v j = f j := if_neg h
theorem gS_s {p : Pic} {k : Nat} {v : Int32} : gS (pS p k v) k = v := vu_s
theorem gS_n {p : Pic} {k j : Nat} {v : Int32} (h : j ≠ k) : gS (pS p k v) j = gS p j := vu_n h
theorem gS_a {p : Pic} {g : Nat → Nat → Int32} {k : Nat} : gS (p.1, g) k = gS p k := rfl
theorem pS_a {p : Pic} {k : Nat} {v : Int32} {j : Nat} : (pS p k v).2 j = p.2 j := rfl
theorem bs {α β : Type} {a : α} {k : α → Option β} : (some a).bind k = k a := rfl
theorem li (n : Nat) : (OfNat.ofNat n : Int32) = nI n := rfl
theorem nI_mul (a b : Nat) : nI a * nI b = nI (a * b) := by
  unfold nI
  exact (Int32.ofNat_mul a b).symm
theorem nI_sub {a b : Nat} (h : b ≤ a) : nI a - nI b = nI (a - b) := by
  have e : nI a = nI (a - b) + nI b := by rw [nI_add]; congr 1; omega
  rw [e, Int32.add_sub_cancel]
theorem n1_lt {a : Nat} : (-1 : Int32) < 0 := by decide
def frN (s : Nat) : Nat := [0, 1, 1, 3, 1, 1, 3, 4, 1, 4, 2, 3, 3, 1, 1, 1, 1].getD s 0
def slN (s : Nat) : Nat := 16 * frN s / s
def hoN (v by_ : Nat) : Nat := (v + by_ - 1) / by_ * by_
theorem X0_fr : ∀ s, s < 17 → f_X0_framesOf (nI s) = some (nI (frN s)) := by decide +kernel
theorem X0_sl : ∀ s, s < 17 → f_X0_slotsOf (nI s) = some (nI (slN s)) := by decide +kernel
theorem X9_fr : ∀ s, s < 17 → 0 < s → f_X9_framesOf (nI s) = some (nI (frN s)) := by decide +kernel
theorem X9_sl : ∀ s, s < 17 → 0 < s → f_X9_slotsOf (nI s) = some (nI (slN s)) := by decide +kernel
theorem X0_ho : ∀ st, st < 5 → 0 < st → ∀ v, v < 33 → 0 < v → f_X0_homeOf (nI v) (nI st) = some (nI (hoN v st)) := by decide +kernel
theorem X9_ho : ∀ st, st < 5 → 0 < st → ∀ v, v < 33 → 0 < v → f_X9_homeOf (nI v) (nI st) = some (nI (hoN v st)) := by decide +kernel
theorem X0_sp : ∀ s, s < 17 → 0 < s → f_X0_spareOf (nI s) = some (nI (16 * frN s % s)) := by decide +kernel
theorem fr_pos : ∀ s, s < 17 → 0 < s → 0 < frN s ∧ frN s ≤ 4 ∧ 0 < slN s ∧ slN s ≤ 16 := by decide
theorem fr_0 : frN 0 = 0 ∧ slN 0 = 0 := by decide
/-- a sum over the numbers z, z + 1 .. (k of them) -/
def sm (f : Nat → Nat) : Nat → Nat → Nat
  | _, 0 => 0
  | z, k + 1 => f z + sm f (z + 1) k
theorem sm_congr {f g : Nat → Nat} : ∀ (k z : Nat), (∀ j, z ≤ j → j < z + k → f j = g j) → sm f z k = sm g z k
  | 0, _, _ => rfl
  | k + 1, z, h => by
    show f z + sm f (z + 1) k = g z + sm g (z + 1) k
    rw [h z (Nat.le_refl _) (by omega), sm_congr k (z + 1) (fun j h1 h2 => h j (by omega) (by omega))]
theorem sm_le {f : Nat → Nat} {b : Nat} : ∀ (k z : Nat), (∀ j, z ≤ j → j < z + k → f j ≤ b) → sm f z k ≤ k * b
  | 0, _, _ => by simp [sm]
  | k + 1, z, h => by
    have h1 := h z (Nat.le_refl _) (by omega)
    have h2 := sm_le (f := f) (b := b) k (z + 1) (fun j h1 h2 => h j (by omega) (by omega))
    show f z + sm f (z + 1) k ≤ (k + 1) * b
    rw [Nat.succ_mul]
    omega
/-- a counting loop, all at once: B is its body, m its end -/
theorem loop_sm {R : Type} {L : Nat → Int32 → Int32 → Option R} {fin : Int32 → Option R} {f : Nat → Nat} {m : Nat}
    (hx : ∀ n acc, L (n + 1) (nI acc) (nI m) = fin (nI acc)) (hs : ∀ n acc z, z < m → L (n + 1) (nI acc) (nI z) = L n (nI (acc + f z)) (nI (z + 1))) :
    ∀ (k z n acc : Nat), z + k = m → k < n → L n (nI acc) (nI z) = fin (nI (acc + sm f z k)) := by
  intro k
  induction k with
  | zero =>
    intro z n acc h1 h2
    cases n with
    | zero => omega
    | succ n =>
      have : z = m := by omega
      subst this
      exact hx n acc
  | succ k ih =>
    intro z n acc h1 h2
    cases n with
    | zero => omega
    | succ n =>
      rw [hs n acc z (by omega), ih (z + 1) n (acc + f z) (by omega) (by omega)]
      show fin (nI (acc + f z + sm f (z + 1) k)) = fin (nI (acc + (f z + sm f (z + 1) k)))
      rw [Nat.add_assoc]
theorem FU_ge {k : Nat} (h : k < 12000) : k < FU := h
