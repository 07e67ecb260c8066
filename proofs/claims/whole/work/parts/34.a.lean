/-! (B) reading: bytes, words as numbers (wb_ rows began as kit/laws/BITS.to-paste) -/
theorem wb_tb (n : Nat) : (lN n).toBitVec = BitVec.ofNat 64 n := rfl
theorem wb_inj {a b : Int64} (h : a.toBitVec = b.toBitVec) : a = b := Int64.toBitVec_inj.mp h
theorem wb_tn {n : Nat} (h : n < 2 ^ 64) : (lN n).toBitVec.toNat = n := by rw [wb_tb, BitVec.toNat_ofNat, Nat.mod_eq_of_lt h]
theorem wb_c : ∀ k, k < 64 → ((nI k).toInt64 &&& 63) = lN k := by decide +kernel
theorem wb_sm : ∀ k, k < 64 → (BitVec.ofNat 64 k).smod 64 = BitVec.ofNat 64 k := by decide +kernel
theorem wb_shl (n : Nat) {k : Nat} (hk : k < 64) : lN n <<< ((nI k).toInt64 &&& 63) = lN (n * 2 ^ k) := by
  rw [wb_c k hk]
  apply wb_inj
  rw [Int64.toBitVec_shiftLeft, wb_tb, wb_tb, wb_tb, wb_sm k hk]
  apply BitVec.eq_of_toNat_eq
  rw [BitVec.shiftLeft_eq', BitVec.toNat_shiftLeft, BitVec.toNat_ofNat, BitVec.toNat_ofNat, BitVec.toNat_ofNat, Nat.mod_eq_of_lt (show k < 2 ^ 64 by omega), Nat.shiftLeft_eq, Nat.mul_mod, Nat.mod_mod, ← Nat.mul_mod]
theorem wb_or {a b : Nat} (ha : a < 2 ^ 64) (hb : b < 2 ^ 64) : lN a ||| lN b = lN (a ||| b) := by
  apply wb_inj
  rw [Int64.toBitVec_or, wb_tb, wb_tb, wb_tb]
  apply BitVec.eq_of_toNat_eq
  rw [BitVec.toNat_or, BitVec.toNat_ofNat, BitVec.toNat_ofNat, BitVec.toNat_ofNat, Nat.mod_eq_of_lt ha, Nat.mod_eq_of_lt hb, Nat.mod_eq_of_lt (Nat.or_lt_two_pow ha hb)]
theorem w_st {v c : Nat} (hv : v < 2 ^ 40) (hc : c < 256) : (lN v <<< (Int32.toInt64 8 &&& 63)) ||| (Int32.toInt64 (nI c)) = lN (v * 256 + c) := by
  have h1 : lN v <<< (Int32.toInt64 8 &&& 63) = lN (v * 256) := wb_shl v (k := 8) (by decide)
  have h3 : v * 256 ||| c = v * 256 + c := by
    rw [show v * 256 = v <<< 8 from (Nat.shiftLeft_eq v 8).symm, Nat.shiftLeft_add_eq_or_of_lt (show c < 2 ^ 8 by omega)]
  rw [h1, nI_l (by omega), show lN c = lN c from rfl, wb_or (by omega) (by omega), h3]
theorem lN_inj {a b : Nat} (ha : a < 2 ^ 64) (hb : b < 2 ^ 64) (h : lN a = lN b) : a = b := by
  have := congrArg (fun x : Int64 => x.toBitVec.toNat) h
  simpa only [wb_tn ha, wb_tn hb] using this
def WN (T : Nat → Nat) (s : Nat) : Nat → Nat
  | 0 => 0
  | n + 1 => WN T s n * 256 + T (s + n)
theorem WN_b {T : Nat → Nat} {s : Nat} : ∀ n, (∀ j, j < n → T (s + j) < 256) → WN T s n < 256 ^ n
  | 0, _ => Nat.zero_lt_one
  | n + 1, h => by
    have h1 := WN_b n (fun j hj => h j (by omega))
    have h2 := h n (by omega)
    show WN T s n * 256 + T (s + n) < 256 ^ (n + 1)
    rw [Nat.pow_succ]
    omega
theorem WN_b6 {T : Nat → Nat} {s n : Nat} (hn : n ≤ 6) (h : ∀ j, j < n → T (s + j) < 256) : WN T s n < 2 ^ 48 :=
  Nat.lt_of_lt_of_le (WN_b n h) (show 256 ^ n ≤ 256 ^ 6 from Nat.pow_le_pow_right (by decide) hn)
theorem WN_b5 {T : Nat → Nat} {s n : Nat} (hn : n ≤ 5) (h : ∀ j, j < n → T (s + j) < 256) : WN T s n < 2 ^ 40 :=
  Nat.lt_of_lt_of_le (WN_b n h) (show 256 ^ n ≤ 256 ^ 5 from Nat.pow_le_pow_right (by decide) hn)
theorem WN_inj {T U : Nat → Nat} {s u : Nat} : ∀ n m, (∀ j, j < n → 0 < T (s + j) ∧ T (s + j) < 256) → (∀ j, j < m → 0 < U (u + j) ∧ U (u + j) < 256) → WN T s n = WN U u m → n = m ∧ ∀ j, j < n → T (s + j) = U (u + j)
  | 0, 0, _, _, _ => ⟨rfl, fun j hj => by omega⟩
  | 0, m + 1, _, h2, h => by
    have h3 := h2 m (by omega)
    have h4 : 0 = WN U u m * 256 + U (u + m) := h
    omega
  | n + 1, 0, h1, _, h => by
    have h3 := h1 n (by omega)
    have h4 : WN T s n * 256 + T (s + n) = 0 := h
    omega
  | n + 1, m + 1, h1, h2, h => by
    have h3 := h1 n (by omega)
    have h5 := h2 m (by omega)
    have h4 : WN T s n * 256 + T (s + n) = WN U u m * 256 + U (u + m) := h
    obtain ⟨g1, g2⟩ := WN_inj n m (fun j hj => h1 j (by omega)) (fun j hj => h2 j (by omega)) (by omega)
    subst g1
    refine ⟨rfl, fun j hj => ?_⟩
    by_cases e : j = n
    · subst e; omega
    · exact g2 j (by omega)
theorem fnd_min {P : Nat → Bool} : ∀ {k z i : Nat}, fnd P k z = some i → ∀ j, z ≤ j → j < i → P j = false
  | 0, _, _, h => by cases h
  | k + 1, z, i, h => by
    intro j h1 h2
    unfold fnd at h
    by_cases e : P z = true
    · rw [if_pos e] at h; cases h; omega
    · rw [if_neg e] at h
      by_cases g : j = z
      · subst g; simpa using e
      · exact fnd_min h j (by omega) h2
def spN (T : Nat → Nat) (P : Nat → Bool) (N q : Nat) : Nat := (fnd (fun j => !P (T j)) (N - q) q).getD N
section SP
variable {T : Nat → Nat} {P : Nat → Bool} {N q : Nat}
theorem sp_s (hq : q < N) (h : P (T q) = true) : spN T P N q = spN T P N (q + 1) := by
  unfold spN
  obtain ⟨k, hk⟩ : ∃ k, N - q = k + 1 := ⟨N - q - 1, by omega⟩
  rw [hk, show N - (q + 1) = k by omega]
  show (if (!P (T q)) = true then some q else fnd (fun j => !P (T j)) k (q + 1)).getD N = _
  rw [h, if_neg (by decide)]
theorem sp_n (hq : q < N) (h : ¬ P (T q) = true) : spN T P N q = q := by
  unfold spN
  obtain ⟨k, hk⟩ : ∃ k, N - q = k + 1 := ⟨N - q - 1, by omega⟩
  rw [hk]
  show (if (!P (T q)) = true then some q else fnd (fun j => !P (T j)) k (q + 1)).getD N = _
  rw [if_pos (by simpa using h)]
  rfl
theorem sp_e : spN T P N N = N := by
  unfold spN
  rw [Nat.sub_self]
  rfl
theorem sp_b (hq : q ≤ N) : q ≤ spN T P N q ∧ spN T P N q ≤ N ∧ (∀ j, q ≤ j → j < spN T P N q → P (T j) = true) ∧ (spN T P N q < N → ¬ P (T (spN T P N q)) = true) := by
  unfold spN
  cases h : fnd (fun j => !P (T j)) (N - q) q with
  | none => exact ⟨hq, Nat.le_refl _, fun j h1 h2 => by simpa using fnd_none h j h1 (by simp only [Option.getD_none] at h2; omega), fun h2 => by simp only [Option.getD_none] at h2; omega⟩
  | some i =>
    obtain ⟨h1, h2, h3⟩ := fnd_some h
    refine ⟨h1, by simp only [Option.getD_some]; omega, fun j g1 g2 => by simpa using fnd_min h j g1 g2, fun _ => by simpa using h3⟩
end SP
theorem if_rng {α : Type} {c lo hi : Nat} {A B : α} (hc : c < 2 ^ 31) (hl : lo < 2 ^ 31) (hh : hi < 2 ^ 31) : (if nI c < nI lo then A else if nI hi < nI c then A else B) = if lo ≤ c ∧ c ≤ hi then B else A := by
  by_cases g : c < lo
  · rw [if_pos (nI_lt g hl), if_neg (by omega)]
  · rw [if_neg (nI_nlt (by omega) hc)]
    by_cases g' : hi < c
    · rw [if_pos (nI_lt g' hc), if_neg (by omega)]
    · rw [if_neg (nI_nlt (by omega) hh), if_pos ⟨by omega, by omega⟩]
def kN (c : Nat) : Nat := if 97 ≤ c ∧ c ≤ 122 then 1 else if 48 ≤ c ∧ c ≤ 57 then 2 else if c = 32 then 5 else if c = 44 then 4 else if c = 59 then 3 else 6
theorem kN_sp : ∀ c, c < 256 → (kN c = 1 ↔ 97 ≤ c ∧ c ≤ 122) ∧ (kN c = 2 ↔ 48 ≤ c ∧ c ≤ 57) ∧ (kN c = 5 ↔ c = 32) ∧ (kN c = 4 ↔ c = 44) ∧ (kN c = 3 ↔ c = 59) ∧ 1 ≤ kN c ∧ kN c ≤ 6 := by decide +kernel
def byI (N : Nat) (T : Nat → Nat) (i : Nat) : Int32 := if i < N then nI (T i) else -1
def TPE (b d : Pic) (T : Nat → Nat) : Prop := ∀ j, j < 900 → T j < 256 ∧ b.2 0 j = nI (T j) ∧ d.2 24 j &&& 255 = nI (T j)
theorem TPE.of {b d d' : Pic} {T : Nat → Nat} (h : TPE b d T) (e : d'.2 24 = d.2 24) : TPE b d' T := fun j hj => by rw [e]; exact h j hj
section TK
variable {r b d : Pic} {T : Nat → Nat} {N i s q : Nat} {dw : Int64}
theorem x_ka (h1 : gS r 1 = nI N) (hN : N ≤ 900) (hT : TPE b d T) (hi : i < 2 ^ 31) : f_X4_kindAt r b (nI i) = some (nI (if i < N then kN (T i) else 0)) := by
  unfold f_X4_kindAt
  rw [if_neg (nI_pos hi), h1]
  by_cases g : i < N
  · have hb := (hT i (by omega)).1
    rw [if_neg (nI_ge g (by omega)), if_pos (show nI i < 900 from nI_lt (b := 900) (by omega) (by decide)), rA_n (by omega) (by decide), bs, (hT i (by omega)).2.1, if_pos g, show (97 : Int32) = nI 97 from rfl, show (122 : Int32) = nI 122 from rfl, if_rng (by omega) (by decide) (by decide)]
    generalize T i = c at hb
    unfold kN b_X4_kindAt_44 b_X4_kindAt_58
    rw [show (48 : Int32) = nI 48 from rfl, show (57 : Int32) = nI 57 from rfl, if_rng (by omega) (by decide) (by decide)]
    by_cases g1 : 97 ≤ c ∧ c ≤ 122
    · rw [if_pos g1, if_pos g1]; rfl
    · rw [if_neg g1, if_neg g1]
      by_cases g2 : 48 ≤ c ∧ c ≤ 57
      · rw [if_pos g2, if_pos g2]; rfl
      · rw [if_neg g2, if_neg g2]
        by_cases g3 : c = 32
        · subst g3; rfl
        · rw [if_neg (show ¬ nI c = 32 from fun w => g3 ((nI_eq (b := 32) (by omega) (by decide)).mp w)), if_neg g3]
          by_cases g4 : c = 44
          · subst g4; rfl
          · rw [if_neg (show ¬ nI c = 44 from fun w => g4 ((nI_eq (b := 44) (by omega) (by decide)).mp w)), if_neg g4]
            by_cases g5 : c = 59
            · subst g5; rfl
            · rw [if_neg (show ¬ nI c = 59 from fun w => g5 ((nI_eq (b := 59) (by omega) (by decide)).mp w)), if_neg g5]; rfl
  · rw [if_pos (nI_le (by omega) hi), if_neg g]; rfl
theorem m_by (h1 : gS d 26 = nI N) (hN : N ≤ 900) (hT : TPE b d T) (hi : i < 2 ^ 31) : f_X9_byteAt d (nI i) = some (byI N T i) := by
  unfold f_X9_byteAt byI
  rw [h1]
  by_cases g : i < N
  · rw [if_neg (nI_ge g (by omega)), rA_n (by omega) (by decide), bs, (hT i (by omega)).2.2, if_pos g]
  · rw [if_pos (nI_le (by omega) hi), if_neg g]
theorem m_inb (hT : TPE b d T) (hN : N ≤ 900) {lo hi : Nat} (hl : lo < 2 ^ 31) (hh : hi < 2 ^ 31) : f_X9_in (byI N T i) (nI lo) (nI hi) = some (if i < N ∧ lo ≤ T i ∧ T i ≤ hi then 1 else 0) := by
  unfold f_X9_in byI
  by_cases g : i < N
  · have hb := (hT i (by omega)).1
    rw [if_pos g, if_rng (by omega) hl hh]
    by_cases g' : lo ≤ T i ∧ T i ≤ hi
    · rw [if_pos g', if_pos ⟨g, g'⟩]
    · rw [if_neg g', if_neg (fun w => g' w.2)]
  · rw [if_neg g, if_pos (show (-1 : Int32) < nI lo from Int32.lt_iff_toInt_lt.mpr (by rw [nI_toInt hl, show (-1 : Int32).toInt = -1 by decide]; omega)), if_neg (fun w => g w.1)]
end TK
