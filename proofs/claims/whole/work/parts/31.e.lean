/-! (B) cuts: the pieces -/
/-- the longest length up to k by which it fits; 0 -/
def fitN (c : Nat → Int32) (i : Nat) (co : Nat → Nat) : Nat → Nat
  | 0 => 0
  | k + 1 => if 2 ≤ k + 1 ∧ co (k + 1) + (TT c (i + (k + 1))).1 = (TT c i).1 then k + 1 else fitN c i co k
theorem fit_sp {c : Nat → Int32} {i : Nat} {co : Nat → Nat} : ∀ k, (fitN c i co k = 0 ∨ (2 ≤ fitN c i co k ∧ fitN c i co k ≤ k ∧ co (fitN c i co k) + (TT c (i + fitN c i co k)).1 = (TT c i).1)) ∧ ∀ n, fitN c i co k < n → 2 ≤ n → n ≤ k → ¬ co n + (TT c (i + n)).1 = (TT c i).1
  | 0 => ⟨Or.inl rfl, fun n h1 h2 h3 => by omega⟩
  | k + 1 => by
    have ih := fit_sp (c := c) (i := i) (co := co) k
    unfold fitN
    by_cases e : 2 ≤ k + 1 ∧ co (k + 1) + (TT c (i + (k + 1))).1 = (TT c i).1
    · rw [if_pos e]
      exact ⟨Or.inr ⟨e.1, Nat.le_refl _, e.2⟩, fun n h1 h2 h3 => by omega⟩
    · rw [if_neg e]
      refine ⟨?_, fun n h1 h2 h3 => ?_⟩
      · rcases ih.1 with h | ⟨h1, h2, h3⟩
        · exact Or.inl h
        · exact Or.inr ⟨h1, by omega, h3⟩
      · by_cases g : n = k + 1
        · subst g; exact fun q => e ⟨h2, q⟩
        · exact ih.2 n h1 h2 (by omega)
theorem fit_le {c : Nat → Int32} {i : Nat} {co : Nat → Nat} (k : Nat) : fitN c i co k ≤ k := by
  rcases (fit_sp (c := c) (i := i) (co := co) k).1 with h | h <;> omega
def mnN (i : Nat) : Nat := if 16 - i < 8 then 16 - i else 8
def fRN (c : Nat → Int32) (i : Nat) : Nat := fitN c i (fun _ => 2) (rnN c i)
def fCN (c : Nat → Int32) (i : Nat) : Nat := fitN c i (fun _ => 3) (mcN c i)
def fPN (c : Nat → Int32) (i : Nat) : Nat := fitN c i (fun n => n + 1) (mnN i)
def plN (c : Nat → Int32) (i : Nat) : Nat := if fPN c i = 0 then 1 else fPN c i
def ldN (c : Nat → Int32) (i n : Nat) : Nat := (fnd (fun r => decide (n ≤ cpN c i r)) (i - 1) 2).getD 0
/-- the piece cut at a place: sort, length, distance -/
def pcN (c : Nat → Int32) (i : Nat) : Nat × Nat × Nat := if fRN c i = 0 then (if fCN c i = 0 then (2, plN c i, 0) else (1, fCN c i, ldN c i (fCN c i))) else (0, fRN c i, 0)
theorem pl_sp {c : Nat → Int32} {i : Nat} (hi : i < 16) (h2 : fRN c i = 0) (h3 : fCN c i = 0) : 1 ≤ plN c i ∧ plN c i ≤ mnN i ∧ plN c i + 1 + (TT c (i + plN c i)).1 = (TT c i).1 ∧ ∀ n, plN c i < n → n ≤ mnN i → ¬ n + 1 + (TT c (i + n)).1 = (TT c i).1 := by
  have sp := fit_sp (c := c) (i := i) (co := fun n => n + 1) (mnN i)
  have sr := fit_sp (c := c) (i := i) (co := fun _ => 2) (rnN c i)
  have sc := fit_sp (c := c) (i := i) (co := fun _ => 3) (mcN c i)
  change (fPN c i = 0 ∨ _) ∧ _ at sp
  change (fRN c i = 0 ∨ _) ∧ _ at sr
  change (fCN c i = 0 ∨ _) ∧ _ at sc
  have mn : 1 ≤ mnN i ∧ mnN i ≤ 8 ∧ i + mnN i ≤ 16 ∧ ∀ n, n ≤ 8 → i + n ≤ 16 → n ≤ mnN i := by
    unfold mnN
    split
    · exact ⟨by omega, by omega, by omega, fun n h1 h2 => by omega⟩
    · exact ⟨by omega, by omega, by omega, fun n h1 h2 => by omega⟩
  obtain ⟨⟨n, n1, n2, n3⟩, -⟩ := bs_sp (r := rnN c i) (m := mcN c i) (T := TT c) hi (fun j a b => TT_b j (by omega) b)
  rw [← TT_eq hi] at n3
  have n4 := congrArg Prod.fst n3
  dsimp only at n4
  have tb := TT_b (c := c) i (by omega) (by omega)
  have hpl : n ≤ 8 ∧ n + 1 + (TT c (i + n)).1 = (TT c i).1 := by
    by_cases g1 : 2 ≤ n ∧ n ≤ rnN c i
    · exfalso
      have := sr.2 n (by show fRN c i < n; omega) g1.1 g1.2
      unfold lcN at n4
      rw [if_pos g1] at n4
      exact this n4.symm
    · by_cases g2 : 2 ≤ n ∧ n ≤ mcN c i
      · exfalso
        have := sc.2 n (by show fCN c i < n; omega) g2.1 g2.2
        unfold lcN at n4
        rw [if_neg g1, if_pos g2] at n4
        exact this n4.symm
      · unfold lcN at n4
        rw [if_neg g1, if_neg g2] at n4
        by_cases g3 : n ≤ 8
        · rw [if_pos g3] at n4
          exact ⟨g3, n4.symm⟩
        · rw [if_neg g3] at n4
          omega
  have hmn := mn.2.2.2 n hpl.1 n2
  unfold plN
  rcases sp.1 with h | ⟨q1, q2, q3⟩
  · rw [if_pos h]
    have hn : n = 1 := by
      refine Decidable.byContradiction (fun g => ?_)
      exact sp.2 n (by show fPN c i < n; omega) (by omega) hmn hpl.2
    subst hn
    refine ⟨Nat.le_refl _, mn.1, hpl.2, fun k h1 h2 => ?_⟩
    exact sp.2 k (by show fPN c i < k; omega) (by omega) h2
  · have q1' : 2 ≤ fPN c i := q1
    rw [if_neg (by omega)]
    exact ⟨by omega, q2, q3, fun k h1 h2 => sp.2 k h1 (by omega) h2⟩
theorem pc_b {c : Nat → Int32} {i : Nat} (hi : i < 16) : 1 ≤ (pcN c i).2.1 ∧ i + (pcN c i).2.1 ≤ 16 := by
  have r1 := rn_b (c := c) hi
  have r2 := mc_b (c := c) hi
  have f1 : fRN c i ≤ rnN c i := fit_le _
  have f2 : fCN c i ≤ mcN c i := fit_le _
  unfold pcN
  by_cases h2 : fRN c i = 0
  · rw [if_pos h2]
    by_cases h3 : fCN c i = 0
    · rw [if_pos h3]
      have := pl_sp hi h2 h3
      have mn : i + mnN i ≤ 16 := by unfold mnN; split <;> omega
      show 1 ≤ plN c i ∧ i + plN c i ≤ 16
      omega
    · rw [if_neg h3]
      show 1 ≤ fCN c i ∧ i + fCN c i ≤ 16
      omega
  · rw [if_neg h2]
    show 1 ≤ fRN c i ∧ i + fRN c i ≤ 16
    omega
def posN (c : Nat → Int32) : Nat → Nat
  | 0 => 0
  | k + 1 => posN c k + (pcN c (posN c k)).2.1
theorem pos_ge {c : Nat → Int32} : ∀ k, (∀ j, j < k → posN c j < 16) → k ≤ posN c k ∧ posN c k ≤ 16
  | 0, _ => ⟨Nat.le_refl _, by show 0 ≤ 16; omega⟩
  | k + 1, h => by
    have ih := pos_ge (c := c) k (fun j hj => h j (by omega))
    have := pc_b (c := c) (h k (by omega))
    show k + 1 ≤ posN c k + _ ∧ posN c k + _ ≤ 16
    omega
theorem pos_un {c : Nat → Int32} {a b : Nat} (h1 : posN c a = 16) (h2 : ∀ j, j < a → posN c j < 16) (h3 : posN c b = 16) (h4 : ∀ j, j < b → posN c j < 16) : a = b := by
  rcases Nat.lt_trichotomy a b with h | h | h
  · have := h4 a h; omega
  · exact h
  · have := h2 b h; omega
/-- n pieces are laid -/
def PCS (k3 k4 k5 k6 k7 : Nat) (C : Pic) (c : Nat → Int32) (n : Nat) : Prop := gS C k7 = nI n ∧ ∀ j, j < n → C.2 k3 j = nI (pcN c (posN c j)).1 ∧ C.2 k4 j = nI (posN c j) ∧ C.2 k5 j = nI (pcN c (posN c j)).2.1 ∧ C.2 k6 j = nI (pcN c (posN c j)).2.2
theorem loop_fl {R : Type} {L : Nat → Int32 → Option R} {fin : Option Nat → Option R} {P : Nat → Bool} {m z0 : Nat}
    (hx : ∀ n, L (n + 1) (nI m) = fin none) (hs : ∀ n z, z0 ≤ z → z < m → L (n + 1) (nI z) = if P z = true then fin (some z) else L n (nI (z + 1))) :
    ∀ (k z n : Nat), z0 ≤ z → z + k = m → k < n → L n (nI z) = fin (fnd P k z) := by
  intro k
  induction k with
  | zero =>
    intro z n h0 h1 h2
    cases n with
    | zero => omega
    | succ n =>
      have : z = m := by omega
      subst this
      exact hx n
  | succ k ih =>
    intro z n h0 h1 h2
    cases n with
    | zero => omega
    | succ n =>
      rw [hs n z h0 (by omega)]
      unfold fnd
      by_cases e : P z = true
      · rw [if_pos e, if_pos e]
      · rw [if_neg e, if_neg e]; exact ih (z + 1) n (by omega) (by omega) (by omega)
theorem bsm {α : Type} {o : Option α} : (o.bind fun u => some u) = o := by cases o <;> rfl
section CP
variable {C d D : Pic} {c : Nat → Int32} {i : Nat}
theorem x_fit (hT : TBL 1 2 C c 0) {co : Nat} (hi : i < 16) (hco : co ≤ 9) {x2 : Int32} : ∀ (k n : Nat), i + k ≤ 16 → k < n → L_X1_longestFit_10 C (nI i) x2 (nI co) n (nI k) = some (nI (fitN c i (fun _ => co) k)) := by
  intro k
  induction k with
  | zero =>
    intro n _ hn
    cases n with
    | zero => omega
    | succ n =>
      show b_X1_longestFit_10 C (nI i) x2 (nI co) _ (nI 0) = _
      unfold b_X1_longestFit_10
      rw [if_pos (by decide)]
      rfl
  | succ k ih =>
    intro n hk hn
    cases n with
    | zero => omega
    | succ n =>
      have t1 := TT_b (c := c) i (by omega) (by omega)
      have t2 := TT_b (c := c) (i + (k + 1)) (by omega) (by omega)
      show b_X1_longestFit_10 C (nI i) x2 (nI co) (L_X1_longestFit_10 C (nI i) x2 (nI co) n) (nI (k + 1)) = _
      unfold b_X1_longestFit_10 fitN
      by_cases e : k = 0
      · subst e
        rw [if_pos (by decide), if_neg (by omega)]
        rfl
      · rw [if_neg (show ¬ nI (k + 1) < 2 from nI_nlt (b := 2) (by omega) (by omega)), nI_add i (k + 1), rA_n (by omega) (by decide), bs, rA_n (by omega) (by decide), bs, (hT i (by omega) (by omega)).1, (hT (i + (k + 1)) (by omega) (by omega)).1, nI_add co _, nI_dec]
        by_cases g : co + (TT c (i + (k + 1))).1 = (TT c i).1
        · rw [if_pos (by rw [g]), if_pos ⟨by omega, g⟩]
        · rw [if_neg (fun q => g ((nI_eq (by omega) (by omega)).mp q)), if_neg (fun q => g q.2)]
          exact ih n (by omega) (by omega)
theorem x_fit' (hT : TBL 1 2 C c 0) {co most : Nat} (hi : i < 16) (hco : co ≤ 9) (hm : i + most ≤ 16) : f_X1_longestFit C (nI i) (nI most) (nI co) = some (nI (fitN c i (fun _ => co) most)) := by
  unfold f_X1_longestFit
  rw [li 16, nI_sub (by omega), if_neg (nI_nlt (by omega) (by omega))]
  exact x_fit hT hi hco most FU hm (FU_ge (by omega))
theorem x_pl (hT : TBL 1 2 C c 0) (hi : i < 16) : f_X1_longestPlain C (nI i) = some (nI (plN c i)) := by
  have key : ∀ (k n : Nat), i + k ≤ 16 → k < n → L_X1_longestPlain_10 C (nI i) n (nI k) = some (nI (if fitN c i (fun n => n + 1) k = 0 then 1 else fitN c i (fun n => n + 1) k)) := by
    intro k
    induction k with
    | zero =>
      intro n _ hn
      cases n with
      | zero => omega
      | succ n =>
        show b_X1_longestPlain_10 C (nI i) _ (nI 0) = _
        unfold b_X1_longestPlain_10
        rw [if_pos (by decide)]
        rfl
    | succ k ih =>
      intro n hk hn
      cases n with
      | zero => omega
      | succ n =>
        have t1 := TT_b (c := c) i (by omega) (by omega)
        have t2 := TT_b (c := c) (i + (k + 1)) (by omega) (by omega)
        show b_X1_longestPlain_10 C (nI i) (L_X1_longestPlain_10 C (nI i) n) (nI (k + 1)) = _
        unfold b_X1_longestPlain_10
        by_cases e : k = 0
        · subst e
          have ef : fitN c i (fun n => n + 1) (0 + 1) = 0 := if_neg (fun q => absurd q.1 (by decide))
          rw [if_pos (by decide), ef]
          rfl
        · rw [if_neg (show ¬ nI (k + 1) < 2 from nI_nlt (b := 2) (by omega) (by omega)), nI_add i (k + 1), rA_n (by omega) (by decide), bs, rA_n (by omega) (by decide), bs, (hT i (by omega) (by omega)).1, (hT (i + (k + 1)) (by omega) (by omega)).1, nI_1 (k + 1), nI_add (k + 1 + 1) _, nI_dec]
          by_cases g : k + 1 + 1 + (TT c (i + (k + 1))).1 = (TT c i).1
          · have ef : fitN c i (fun n => n + 1) (k + 1) = k + 1 := if_pos ⟨by omega, g⟩
            rw [if_pos (by rw [g]), ef, if_neg (by omega)]
          · have ef : fitN c i (fun n => n + 1) (k + 1) = fitN c i (fun n => n + 1) k := if_neg (fun q => g q.2)
            rw [if_neg (fun q => g ((nI_eq (by omega) (by omega)).mp q)), ef]
            exact ih n (by omega) (by omega)
  unfold f_X1_longestPlain
  have e : (if (16 : Int32) - nI i < 8 then (16 : Int32) - nI i else 8) = nI (mnN i) := by
    unfold mnN
    rw [li 16, nI_sub (by omega), li 8]
    by_cases g : 16 - i < 8
    · rw [if_pos (nI_lt g (by omega)), if_pos g]
    · rw [if_neg (nI_nlt (by omega) (by omega)), if_neg g]
  rw [e]
  exact key (mnN i) FU (by unfold mnN; split <;> omega) (FU_ge (by unfold mnN; split <;> omega))
theorem x_ld (hc : ∀ j, j < 16 → C.2 0 j = c j) (hi : i < 16) {n : Nat} (hn : n ≤ 16) : f_X1_leastDistance C (nI i) (nI n) = some (nI (ldN c i n)) := by
  by_cases h2 : i < 2
  · show b_X1_leastDistance_2 C (nI i) (nI n) _ (nI 2) = _
    unfold b_X1_leastDistance_2 ldN
    rw [if_pos (nI_lt h2 (by omega)), show i - 1 = 0 by omega]
    rfl
  · refine (loop_fl (L := L_X1_leastDistance_2 C (nI i) (nI n)) (fin := fun o => some (nI (o.getD 0))) (P := fun r => decide (n ≤ cpN c i r)) (m := i + 1) (z0 := 2) (fun m => ?_) (fun m r r2 hr => ?_) (i - 1) 2 FU (by omega) (by omega) (FU_ge (by omega)))
    · show b_X1_leastDistance_2 C (nI i) (nI n) _ (nI (i + 1)) = _
      unfold b_X1_leastDistance_2
      rw [if_pos (nI_lt (by omega) (by omega))]
      rfl
    · show b_X1_leastDistance_2 C (nI i) (nI n) _ (nI r) = _
      unfold b_X1_leastDistance_2
      have := cp_b (c := c) (d := r) hi
      rw [if_neg (nI_nlt (by omega) (by omega)), x_cp hc hi (by omega) r2, bs, nI_1]
      by_cases g : n ≤ cpN c i r
      · rw [if_neg (nI_nlt g (by omega)), if_pos (by simpa using g)]
        rfl
      · rw [if_pos (nI_lt (by omega) (by omega)), if_neg (by simpa using g)]
theorem x_cpc (hc : ∀ j, j < 16 → C.2 0 j = c j) (hT : TBL 1 2 C c 0) (hi : i < 16) : f_X1_choosePiece C (nI i) = f_X1_addPiece C (nI (pcN c i).1) (nI i) (nI (pcN c i).2.1) (nI (pcN c i).2.2) := by
  have r1 := rn_b (c := c) hi
  have r2 := mc_b (c := c) hi
  have f1 : fRN c i ≤ rnN c i := fit_le _
  have f2 : fCN c i ≤ mcN c i := fit_le _
  have e1 : f_X1_longestFit C (nI i) (nI (rnN c i)) (nI 2) = some (nI (fRN c i)) := x_fit' hT hi (by omega) (by omega)
  have e2 : f_X1_longestFit C (nI i) (nI (mcN c i)) (nI 3) = some (nI (fCN c i)) := x_fit' hT hi (by omega) (by omega)
  unfold f_X1_choosePiece
  rw [x_run hc hi, bs, show (2 : Int32) = nI 2 from rfl, e1, bs, x_mc hc hi, bs, show (3 : Int32) = nI 3 from rfl, e2, bs, x_pl hT hi, bs, bsm, bsm]
  unfold pcN
  by_cases h2 : fRN c i = 0
  · rw [if_pos (by rw [h2]; decide), if_pos h2]
    by_cases h3 : fCN c i = 0
    · rw [if_pos (by rw [h3]; decide), if_pos h3]
      rfl
    · rw [if_neg (nI_nle (by omega) (by omega)), if_neg h3, x_ld hc hi (by omega), bs, bsm]
      rfl
  · rw [if_neg (nI_nle (by omega) (by omega)), if_neg h2]
    first
      | rfl
      | (rw [bsm]; rfl)
-- the reference's
theorem m_ch (hT : TBL 34 35 d c 0) {n co : Nat} (hn : i + n ≤ 16) (hco : co ≤ 20) : f_X9_isCheapest d (nI i) (nI n) (nI co) = some (if co + (TT c (i + n)).1 = (TT c i).1 then 1 else 0) := by
  have t1 := TT_b (c := c) i (by omega) (by omega)
  have t2 := TT_b (c := c) (i + n) (by omega) (by omega)
  unfold f_X9_isCheapest
  rw [nI_add i n, rA_n (by omega) (by decide), bs, rA_n (by omega) (by decide), bs, (hT i (by omega) (by omega)).1, (hT (i + n) (by omega) (by omega)).1, nI_add co _]
  by_cases g : co + (TT c (i + n)).1 = (TT c i).1
  · rw [if_pos (by rw [g]), if_pos g]
  · rw [if_neg (fun q => g ((nI_eq (by omega) (by omega)).mp q)), if_neg g]
theorem m_120 (hT : TBL 34 35 d c 0) (hi : i < 16) (h2 : fRN c i = 0) (h3 : fCN c i = 0) : ∀ (k n : Nat), plN c i ≤ k → k ≤ mnN i → k < n → L_X9_cutsOne_120 (nI i) n d (nI k) = (f_X9_cutHere d 2 (nI i) (nI (plN c i)) 0).bind fun u => some (nI (plN c i), u) := by
  obtain ⟨p1, p2, p3, p4⟩ := pl_sp hi h2 h3
  have mn : i + mnN i ≤ 16 ∧ mnN i ≤ 8 := by unfold mnN; split <;> omega
  intro k
  induction k with
  | zero => intro n h; omega
  | succ k ih =>
    intro n hk hm hn
    cases n with
    | zero => omega
    | succ n =>
      show b_X9_cutsOne_120 (nI i) (L_X9_cutsOne_120 (nI i) n) d (nI (k + 1)) = _
      unfold b_X9_cutsOne_120
      rw [show (1 : Int32) + nI (k + 1) = nI (k + 1 + 1) by rw [li 1, nI_add]; exact congrArg nI (by omega), m_ch hT (by omega) (by omega), bs, nI_dec]
      by_cases g : plN c i = k + 1
      · rw [if_pos (show k + 1 + 1 + (TT c (i + (k + 1))).1 = (TT c i).1 by rw [← g]; exact p3), if_neg (by decide), g]
      · rw [if_neg (p4 (k + 1) (by omega) hm), if_pos rfl]
        exact ih n (by omega) (by omega) (by omega)
theorem m_50 (h33 : ∀ j, j < 16 → d.2 33 j = c j) (hT : TBL 34 35 d c 0) (hi : i < 16) (k43 : Pic → Int32 → Option (Int32 × Pic)) {n : Nat} (hn8 : n ≤ 8) (hn : 2 ≤ n) (h : ¬ (n ≤ mcN c i ∧ 3 + (TT c (i + n)).1 = (TT c i).1)) : ∀ (k m q : Nat), q + k = 16 → 2 ≤ q → k < m → L_X9_cutsOne_50 (nI i) k43 m d (nI n) (nI q) = k43 d (nI n + (-1)) := by
  have r2 := mc_b (c := c) hi
  intro k
  induction k with
  | zero =>
    intro m q hq h2q hm
    cases m with
    | zero => omega
    | succ m =>
      show b_X9_cutsOne_50 (nI i) k43 _ d (nI n) (nI q) = _
      unfold b_X9_cutsOne_50
      rw [li 15, if_pos (nI_lt (by omega) (by omega))]
  | succ k ih =>
    intro m q hq h2q hm
    cases m with
    | zero => omega
    | succ m =>
      have cb := cp_b (c := c) (d := q) hi
      show b_X9_cutsOne_50 (nI i) k43 (L_X9_cutsOne_50 (nI i) k43 m) d (nI n) (nI q) = _
      unfold b_X9_cutsOne_50
      rw [li 15, if_neg (nI_nlt (by omega) (by omega)), m_cp h33 hi (by omega) h2q, bs, nI_1 q]
      have nx := ih m (q + 1) (by omega) (by omega) (by omega)
      by_cases g : n ≤ (if q ≤ i then cpN c i q else 0)
      · have hqi : q ≤ i := by
          refine Decidable.byContradiction (fun w => ?_)
          rw [if_neg w] at g
          omega
        rw [if_pos hqi] at g ⊢
        have := (mc_sp (c := c) (i := i)).2 q h2q hqi
        rw [if_neg (nI_nlt g (by omega)), li 3, m_ch hT (by omega) (by omega), bs, if_neg (fun w => h ⟨by omega, w⟩), if_pos rfl]
        exact nx
      · have : (if q ≤ i then cpN c i q else 0) < 2 ^ 31 := by split <;> omega
        rw [if_pos (nI_lt (by omega) (by omega))]
        exact nx
theorem m_50y (h33 : ∀ j, j < 16 → d.2 33 j = c j) (hT : TBL 34 35 d c 0) (hi : i < 16) (k43 : Pic → Int32 → Option (Int32 × Pic)) {n r : Nat} (hn8 : n ≤ 8) (hn : 2 ≤ n) (hm : n ≤ mcN c i) (hch : 3 + (TT c (i + n)).1 = (TT c i).1) : ∀ (k m q : Nat), q + k = i + 1 → 2 ≤ q → k < m → fnd (fun r => decide (n ≤ cpN c i r)) k q = some r → L_X9_cutsOne_50 (nI i) k43 m d (nI n) (nI q) = (f_X9_cutHere d 1 (nI i) (nI n) (nI r)).bind fun u => some (nI n, u) := by
  have r2 := mc_b (c := c) hi
  intro k
  induction k with
  | zero => intro m q _ _ _ h; cases h
  | succ k ih =>
    intro m q hq h2q hm hf
    cases m with
    | zero => omega
    | succ m =>
      have cb := cp_b (c := c) (d := q) hi
      show b_X9_cutsOne_50 (nI i) k43 (L_X9_cutsOne_50 (nI i) k43 m) d (nI n) (nI q) = _
      unfold b_X9_cutsOne_50
      unfold fnd at hf
      rw [li 15, if_neg (nI_nlt (by omega) (by omega)), m_cp h33 hi (by omega) h2q, bs, nI_1 q, if_pos (show q ≤ i by omega)]
      by_cases g : n ≤ cpN c i q
      · rw [if_pos (by simpa using g)] at hf
        cases hf
        rw [if_neg (nI_nlt g (by omega)), li 3, m_ch hT (by omega) (by omega), bs, if_pos hch, if_neg (by decide)]
      · rw [if_neg (by simpa using g)] at hf
        rw [if_pos (nI_lt (by omega) (by omega))]
        exact ih m (q + 1) (by omega) (by omega) (by omega) hf
theorem m_43 (h33 : ∀ j, j < 16 → d.2 33 j = c j) (hT : TBL 34 35 d c 0) (hi : i < 16) (h2 : fRN c i = 0) : ∀ (k n : Nat), fCN c i ≤ k → k ≤ 8 → k < n → L_X9_cutsOne_43 (nI i) n d (nI k) = (f_X9_cutHere d (nI (pcN c i).1) (nI i) (nI (pcN c i).2.1) (nI (pcN c i).2.2)).bind fun u => some (nI (pcN c i).2.1, u) := by
  have r2 := mc_b (c := c) hi
  have sc := fit_sp (c := c) (i := i) (co := fun _ => 3) (mcN c i)
  change (fCN c i = 0 ∨ _) ∧ _ at sc
  have mn : i + mnN i ≤ 16 ∧ mnN i ≤ 8 := by unfold mnN; split <;> omega
  have base : fCN c i = 0 → (if (8 : Int32) ≤ 16 - nI i then L_X9_cutsOne_120 (nI i) FU d 8 else L_X9_cutsOne_120 (nI i) FU d (16 - nI i)) = (f_X9_cutHere d (nI (pcN c i).1) (nI i) (nI (pcN c i).2.1) (nI (pcN c i).2.2)).bind fun u => some (nI (pcN c i).2.1, u) := by
    intro h3
    have e : pcN c i = (2, plN c i, 0) := by unfold pcN; rw [if_pos h2, if_pos h3]
    have e2 : (if (8 : Int32) ≤ 16 - nI i then L_X9_cutsOne_120 (nI i) FU d 8 else L_X9_cutsOne_120 (nI i) FU d (16 - nI i)) = L_X9_cutsOne_120 (nI i) FU d (nI (mnN i)) := by
      unfold mnN
      rw [li 16, nI_sub (by omega), li 8]
      by_cases g : 16 - i < 8
      · rw [if_neg (nI_ge g (by omega)), if_pos g]
      · rw [if_pos (nI_le (by omega) (by omega)), if_neg g]
    rw [e2, e, m_120 hT hi h2 h3 (mnN i) FU (pl_sp hi h2 h3).2.1 (Nat.le_refl _) (FU_ge (by omega))]
    rfl
  intro k
  induction k with
  | zero =>
    intro n hk _ hn
    cases n with
    | zero => omega
    | succ n =>
      show b_X9_cutsOne_43 (nI i) _ d (nI 0) = _
      unfold b_X9_cutsOne_43
      rw [if_pos (by decide)]
      exact base (by omega)
  | succ k ih =>
    intro n hk hk8 hn
    cases n with
    | zero => omega
    | succ n =>
      show b_X9_cutsOne_43 (nI i) (L_X9_cutsOne_43 (nI i) n) d (nI (k + 1)) = _
      unfold b_X9_cutsOne_43
      by_cases e : k = 0
      · subst e
        rw [if_pos (by decide)]
        refine base ?_
        rcases sc.1 with h | h
        · exact h
        · have := h.1; change 2 ≤ fCN c i at this; omega
      · rw [if_neg (show ¬ nI (k + 1) ≤ 1 from nI_ge (a := 1) (by omega) (by omega)), show (2 : Int32) = nI 2 from rfl]
        by_cases g : fCN c i = k + 1
        · rcases sc.1 with h | ⟨q1, q2, q3⟩
          · omega
          · change fCN c i ≤ mcN c i at q2
            change 3 + (TT c (i + fCN c i)).1 = (TT c i).1 at q3
            rw [← g]
            have hex : ∃ r, fnd (fun r => decide (fCN c i ≤ cpN c i r)) (i - 1) 2 = some r := by
              cases hf : fnd (fun r => decide (fCN c i ≤ cpN c i r)) (i - 1) 2 with
              | some r => exact ⟨r, rfl⟩
              | none =>
                exfalso
                rcases (mc_sp (c := c) (i := i)).1 with h | ⟨q, h1, h2, h3⟩
                · omega
                · have := fnd_none hf q h1 (by omega)
                  simp at this
                  omega
            obtain ⟨r, hr⟩ := hex
            have hr2 := (fnd_some hr).2.1
            have hr1 := (fnd_some hr).1
            have e1 : pcN c i = (1, fCN c i, r) := by
              unfold pcN ldN
              rw [if_pos h2, if_neg (by omega), hr]
              rfl
            rw [e1]
            exact m_50y h33 hT hi _ (by omega) (by omega) q2 q3 (i - 1) FU 2 (by omega) (by omega) (FU_ge (by omega)) hr
        · rw [m_50 h33 hT hi (L_X9_cutsOne_43 (nI i) n) hk8 (by omega) (fun w => sc.2 (k + 1) (by show fCN c i < k + 1; omega) (by omega) w.1 w.2) 14 FU 2 (by omega) (by omega) (FU_ge (by omega)), nI_dec]
          exact ih n (by omega) (by omega) (by omega)
theorem m_co (h33 : ∀ j, j < 16 → d.2 33 j = c j) (hT : TBL 34 35 d c 0) (hi : i < 16) : f_X9_cutsOne d (nI i) = (f_X9_cutHere d (nI (pcN c i).1) (nI i) (nI (pcN c i).2.1) (nI (pcN c i).2.2)).bind fun u => some (nI (pcN c i).2.1, u) := by
  have r1 := rn_b (c := c) hi
  have r2 := mc_b (c := c) hi
  have f2 : fCN c i ≤ mcN c i := fit_le _
  have f1 : fRN c i ≤ rnN c i := fit_le _
  have sr := fit_sp (c := c) (i := i) (co := fun _ => 2) (rnN c i)
  change (fRN c i = 0 ∨ _) ∧ _ at sr
  have key : ∀ (k n : Nat), fRN c i ≤ k → k ≤ rnN c i → k < n → L_X9_cutsOne_6 (nI i) n d (nI k) = (f_X9_cutHere d (nI (pcN c i).1) (nI i) (nI (pcN c i).2.1) (nI (pcN c i).2.2)).bind fun u => some (nI (pcN c i).2.1, u) := by
    intro k
    induction k with
    | zero =>
      intro n hk _ hn
      cases n with
      | zero => omega
      | succ n =>
        show b_X9_cutsOne_6 (nI i) _ d (nI 0) = _
        unfold b_X9_cutsOne_6
        rw [if_pos (by decide), show (8 : Int32) = nI 8 from rfl]
        exact m_43 h33 hT hi (by omega) 8 FU (by omega) (Nat.le_refl _) (FU_ge (by omega))
    | succ k ih =>
      intro n hk hkr hn
      cases n with
      | zero => omega
      | succ n =>
        show b_X9_cutsOne_6 (nI i) (L_X9_cutsOne_6 (nI i) n) d (nI (k + 1)) = _
        unfold b_X9_cutsOne_6
        by_cases e : k = 0
        · subst e
          rw [if_pos (by decide), show (8 : Int32) = nI 8 from rfl]
          refine m_43 h33 hT hi ?_ 8 FU (by omega) (Nat.le_refl _) (FU_ge (by omega))
          rcases sr.1 with h | h
          · exact h
          · have := h.1; change 2 ≤ fRN c i at this; omega
        · rw [if_neg (show ¬ nI (k + 1) ≤ 1 from nI_ge (a := 1) (by omega) (by omega)), show (2 : Int32) = nI 2 from rfl, m_ch hT (by omega) (by omega), bs, nI_dec]
          by_cases g : fRN c i = k + 1
          · rcases sr.1 with h | ⟨q1, q2, q3⟩
            · omega
            · change 2 + (TT c (i + fRN c i)).1 = (TT c i).1 at q3
              have e1 : pcN c i = (0, fRN c i, 0) := by
                unfold pcN
                rw [if_neg (by omega)]
              rw [e1, ← g, if_pos q3, if_neg (by decide)]
              rfl
          · rw [if_neg (sr.2 (k + 1) (by show fRN c i < k + 1; omega) (by omega) hkr), if_pos rfl]
            exact ih n (by omega) (by omega) (by omega)
  unfold f_X9_cutsOne
  rw [m_run h33 hi, bs]
  exact key (rnN c i) FU f1 (Nat.le_refl _) (FU_ge (by omega))
end CP
