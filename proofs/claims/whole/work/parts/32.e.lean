/-! (B) copies: of a pool, of the row, of a state -/
theorem cpA_f {p q : Pic} {k k0 : Nat} (n : Nat) (h : n < 2 ^ 31) : ∃ p', cpA p k n q k0 n 0 0 (nI n) = some p' ∧ p'.1 = p.1 ∧ (∀ j, j < n → p'.2 k j = q.2 k0 j) ∧ ∀ r, r ≠ k → p'.2 r = p.2 r := by
  obtain ⟨p', w, a, b, c⟩ := cpA_n (p := p) (q := q) (k := k) (n := n) (k0 := k0) (n0 := n) (a := 0) (b := 0) (l := n) (by omega) (by omega) h h
  refine ⟨p', w, a, fun j hj => ?_, c⟩
  rw [b, if_pos ⟨by omega, by omega⟩]
  exact congrArg (q.2 k0) (by omega)
def EQP (p' p : Pic) : Prop := (∀ k, k = 0 ∨ k = 1 ∨ k = 2 ∨ k = 11 → gS p' k = gS p k) ∧ (∀ k, (4 ≤ k ∧ k ≤ 8) ∨ k = 10 → ∀ j, j < 30 → p'.2 k j = p.2 k j) ∧ (∀ j, j < 480 → p'.2 9 j = p.2 9 j) ∧ ∀ j, j < 4 → p'.2 12 j = p.2 12 j
def EQZ (z' z : Pic) : Prop := z'.1 0 = z.1 0 ∧ (∀ k, 1 ≤ k → k ≤ 4 → ∀ j, j < 24 → z'.2 k j = z.2 k j) ∧ ∀ j, j < 384 → z'.2 5 j = z.2 5 j
section CY
variable {d p z p' z' : Pic} {X : Nat → Nat} {st q : Nat}
theorem PR.cg (h : PR p X) (e : EQP p' p) (h30 : X 315 ≤ 30) : PR p' X := by
  obtain ⟨q1, q2, q3, q4, q5, q6⟩ := h
  refine ⟨fun r hr => ?_, fun r hr h2 => ?_, fun r hr => ?_, fun r hr h2 i hi => ?_, ?_, fun j hj => ?_⟩
  · rw [e.2.1 4 (by omega) r hr]; exact q1 r hr
  · rw [e.2.1 5 (by omega) r hr, e.2.1 6 (by omega) r hr, e.2.1 7 (by omega) r hr]; exact q2 r hr h2
  · rw [e.2.1 8 (by omega) r hr]; exact q3 r hr
  · rw [e.2.2.1 _ (by omega)]; exact q4 r hr h2 i hi
  · rw [e.1 11 (by omega)]; exact q5
  · rw [e.2.1 10 (by omega) j (by omega)]; exact q6 j hj
theorem ZR.cg (h : ZR z X) (e : EQZ z' z) : ZR z' X := by
  refine ⟨by rw [e.1]; exact h.1, fun j hj => ?_, fun j i hj hi => ?_⟩
  · rw [e.2.1 1 (by omega) (by omega) j hj, e.2.1 2 (by omega) (by omega) j hj, e.2.1 3 (by omega) (by omega) j hj, e.2.1 4 (by omega) (by omega) j hj]
    exact h.2.1 j hj
  · rw [e.2.2 _ (by omega)]; exact h.2.2 j i hj hi
theorem PT.cg (h : PT p X) (e : EQP p' p) : PT p' X := fun t ht => by rw [e.2.2.2 t ht]; exact h t ht
theorem RR.cy (h : RR st d p z X) (e1 : EQP p' p) (e2 : EQZ z' z) : RR st d p' z' X := ⟨h.1, h.2.1.cg e1 h.2.2.2.a30, h.2.2.1.cg e2, h.2.2.2⟩
theorem z_copy (za zd : Pic) : ∃ z', f_X7_copyFrom za zd = some z' ∧ EQZ z' za := by
  unfold f_X7_copyFrom
  obtain ⟨z1, w1, a1, b1, c1⟩ := pS_e zd 0 (gS za 0)
  obtain ⟨z2, w2, a2, b2, c2⟩ := cpA_f (p := z1) (q := za) (k := 1) (k0 := 1) 24 (by decide)
  obtain ⟨z3, w3, a3, b3, c3⟩ := cpA_f (p := z2) (q := za) (k := 2) (k0 := 2) 24 (by decide)
  obtain ⟨z4, w4, a4, b4, c4⟩ := cpA_f (p := z3) (q := za) (k := 3) (k0 := 3) 24 (by decide)
  obtain ⟨z5, w5, a5, b5, c5⟩ := cpA_f (p := z4) (q := za) (k := 4) (k0 := 4) 24 (by decide)
  obtain ⟨z6, w6, a6, b6, c6⟩ := cpA_f (p := z5) (q := za) (k := 5) (k0 := 5) 384 (by decide)
  rw [bs, w1, li 24, w2, bs, w3, bs, w4, bs, w5, bs, li 384, w6, bs]
  refine ⟨z6, rfl, ?_, fun k h1 h2 j hj => ?_, b6⟩
  · rw [a6, a5, a4, a3, a2]; exact a1
  · rw [c6 k (by omega)]
    have : k = 1 ∨ k = 2 ∨ k = 3 ∨ k = 4 := by omega
    rcases this with rfl | rfl | rfl | rfl
    · rw [c5 1 (by decide), c4 1 (by decide), c3 1 (by decide)]; exact b2 j hj
    · rw [c5 2 (by decide), c4 2 (by decide)]; exact b3 j hj
    · rw [c5 3 (by decide)]; exact b4 j hj
    · exact b5 j hj
theorem p_copy (pa pd za zd : Pic) : ∃ p' z', f_X3_copyFrom pa pd za zd = some (p', z') ∧ EQP p' pa ∧ EQZ z' za ∧ gS p' 14 = nI 0 := by
  unfold f_X3_copyFrom
  obtain ⟨p1, w1, a1, b1, c1⟩ := pS_e pd 0 (gS pa 0)
  obtain ⟨p2, w2, a2, b2, c2⟩ := pS_e p1 1 (gS pa 1)
  obtain ⟨p3, w3, a3, b3, c3⟩ := pS_e p2 2 (gS pa 2)
  obtain ⟨z4, w4, e4⟩ := z_copy za zd
  obtain ⟨p5, w5, a5, b5, c5⟩ := cpA_f (p := p3) (q := pa) (k := 4) (k0 := 4) 30 (by decide)
  obtain ⟨p6, w6, a6, b6, c6⟩ := cpA_f (p := p5) (q := pa) (k := 5) (k0 := 5) 30 (by decide)
  obtain ⟨p7, w7, a7, b7, c7⟩ := cpA_f (p := p6) (q := pa) (k := 6) (k0 := 6) 30 (by decide)
  obtain ⟨p8, w8, a8, b8, c8⟩ := cpA_f (p := p7) (q := pa) (k := 7) (k0 := 7) 30 (by decide)
  obtain ⟨p9, w9, a9, b9, c9⟩ := cpA_f (p := p8) (q := pa) (k := 8) (k0 := 8) 30 (by decide)
  obtain ⟨pA, wA_, aA, bA, cA⟩ := cpA_f (p := p9) (q := pa) (k := 9) (k0 := 9) 480 (by decide)
  obtain ⟨pB, wB, aB, bB, cB⟩ := cpA_f (p := pA) (q := pa) (k := 10) (k0 := 10) 30 (by decide)
  obtain ⟨pC, wC, aC, bC, cC⟩ := pS_e pB 11 (gS pa 11)
  obtain ⟨pD, wD, aD, bD, cD⟩ := cpA_f (p := pC) (q := pa) (k := 12) (k0 := 12) 4 (by decide)
  obtain ⟨pE, wE, aE, bE, cE⟩ := pS_e pD 14 0
  rw [bs, w1, bs, w2, bs, w3, w4, bs, li 30, w5, bs, w6, bs, w7, bs, w8, bs, w9, bs, li 480, wA_, bs, wB, bs, bs, wC, li 4, wD, bs, bs, wE]
  have gB : ∀ k, gS pB k = gS p3 k := fun k => by unfold gS; rw [aB, aA, a9, a8, a7, a6, a5]
  have gD : ∀ k, gS pD k = gS pC k := fun k => by unfold gS; rw [aD]
  refine ⟨pE, z4, rfl, ⟨fun k hk => ?_, fun k hk j hj => ?_, fun j hj => ?_, fun j hj => ?_⟩, e4, aE⟩
  · rw [bE k (by omega), gD]
    rcases hk with rfl | rfl | rfl | rfl
    · rw [bC 0 (by decide), gB, b3 0 (by decide), b2 0 (by decide), a1]
    · rw [bC 1 (by decide), gB, b3 1 (by decide), a2]
    · rw [bC 2 (by decide), gB, a3]
    · rw [aC]
  · rw [cE, cD k (by omega), cC]
    have : k = 4 ∨ k = 5 ∨ k = 6 ∨ k = 7 ∨ k = 8 ∨ k = 10 := by omega
    rcases this with rfl | rfl | rfl | rfl | rfl | rfl
    · rw [cB 4 (by decide), cA 4 (by decide), c9 4 (by decide), c8 4 (by decide), c7 4 (by decide), c6 4 (by decide)]; exact b5 j hj
    · rw [cB 5 (by decide), cA 5 (by decide), c9 5 (by decide), c8 5 (by decide), c7 5 (by decide)]; exact b6 j hj
    · rw [cB 6 (by decide), cA 6 (by decide), c9 6 (by decide), c8 6 (by decide)]; exact b7 j hj
    · rw [cB 7 (by decide), cA 7 (by decide), c9 7 (by decide)]; exact b8 j hj
    · rw [cB 8 (by decide), cA 8 (by decide)]; exact b9 j hj
    · exact bB j hj
  · rw [cE, cD 9 (by decide), cC, cB 9 (by decide)]; exact bA j hj
  · rw [cE]; exact bD j hj
theorem s_copy (ta td pa pd za zd ea ed : Pic) : ∃ t' p' z' e', f_X6_copyFrom ta td pa pd za zd ea ed = some (t', p', z', e') ∧ (∀ j, j < 10 → t'.2 1 j = ta.2 1 j) ∧ EQP p' pa ∧ EQZ z' za ∧ ∀ j, j < 160 → e'.2 0 j = ea.2 0 j := by
  unfold f_X6_copyFrom
  obtain ⟨e1, w1, a1, b1, c1⟩ := cpA_f (p := ed) (q := ea) (k := 0) (k0 := 0) 160 (by decide)
  obtain ⟨t2, w2, a2, b2, c2⟩ := cpA_f (p := td) (q := ta) (k := 1) (k0 := 1) 10 (by decide)
  obtain ⟨p3, z3, w3, e3, e4, -⟩ := p_copy pa pd za zd
  rw [li 160, w1, bs, li 10, w2, bs, w3, bs]
  exact ⟨t2, p3, z3, e1, rfl, b2, e3, e4, b1⟩
theorem ST.cg {bg nd : Nat} {t e t' e' : Pic} (h : ST st bg nd t p e X) (hn : nd ≤ 10) (h1 : ∀ j, j < 10 → t'.2 1 j = t.2 1 j) (h2 : EQP p' p) (h3 : ∀ j, j < 160 → e'.2 0 j = e.2 0 j) : ST st bg nd t' p' e' X := by
  obtain ⟨q1, q2, q3, q4, q5⟩ := h
  exact ⟨by rw [h2.1 0 (by omega)]; exact q1, by rw [h2.1 1 (by omega)]; exact q2, by rw [h2.1 2 (by omega)]; exact q3, fun j hj => by rw [h3 j (by omega)]; exact q4 j hj, fun k hk => by rw [h1 k (by omega)]; exact q5 k hk⟩
/-- rows copied, number by number -/
theorem loop_cp {L : Nat → Pic → Int32 → Option Pic} {k0 k1 N o0 o1 : Nat} (fin : Pic → Option Pic) (hk : k0 ≠ k1)
    (hx : ∀ n D, L (n + 1) D (nI N) = fin D) (hs : ∀ n D j, j < N → D.1 = d.1 → ∃ D', L (n + 1) D (nI j) = L n D' (nI (j + 1)) ∧ D'.1 = D.1 ∧ D'.2 k1 = upd (D.2 k1) (o1 + j) (D.2 k0 (o0 + j)) ∧ ∀ r, r ≠ k1 → D'.2 r = D.2 r) :
    ∀ (k j n : Nat) (D : Pic), j + k = N → k < n → D.1 = d.1 → (∀ r, r ≠ k1 → D.2 r = d.2 r) → (∀ i, D.2 k1 i = if o1 ≤ i ∧ i < o1 + j then d.2 k0 (o0 + (i - o1)) else d.2 k1 i) → ∃ D', L n D (nI j) = fin D' ∧ D'.1 = d.1 ∧ (∀ r, r ≠ k1 → D'.2 r = d.2 r) ∧ (∀ i, D'.2 k1 i = if o1 ≤ i ∧ i < o1 + N then d.2 k0 (o0 + (i - o1)) else d.2 k1 i) := by
  intro k
  induction k with
  | zero =>
    intro j n D hj hn h1 h2 h3
    cases n with
    | zero => omega
    | succ n =>
      have : j = N := by omega
      subst this
      exact ⟨D, hx n D, h1, h2, h3⟩
  | succ k ih =>
    intro j n D hj hn h1 h2 h3
    cases n with
    | zero => omega
    | succ n =>
      obtain ⟨D1, e1, a1, b1, c1⟩ := hs n D j (by omega) h1
      rw [e1]
      refine ih (j + 1) n D1 (by omega) (by omega) (a1.trans h1) (fun r hr => (c1 r hr).trans (h2 r hr)) (fun i => ?_)
      rw [b1]
      by_cases e : i = o1 + j
      · subst e
        rw [up_s, h2 k0 hk, if_pos ⟨by omega, by omega⟩]
        exact congrArg (d.2 k0) (by omega)
      · rw [up_n e, h3 i]
        by_cases g : o1 ≤ i ∧ i < o1 + j
        · rw [if_pos g, if_pos ⟨g.1, by omega⟩]
        · rw [if_neg g, if_neg (by omega)]
theorem m_ka (h : MX d X) : ∃ d', f_X9_keepsAside d = some d' ∧ d'.1 = d.1 ∧ (∀ r, r ≠ 21 → d'.2 r = d.2 r) ∧ ∀ j, j < 1234 → d'.2 21 j = nI (X j) := by
  obtain ⟨D, e, a, b, c⟩ := loop_cp (d := d) (L := L_X9_keepsAside_2) (k0 := 20) (k1 := 21) (N := 1234) (o0 := 0) (o1 := 0) some (by decide) (fun n D => by
    show b_X9_keepsAside_2 _ D (nI 1234) = _
    unfold b_X9_keepsAside_2
    rw [if_pos (by decide)]) (fun n D j hj hD => by
    obtain ⟨D1, w1, a1, b1, c1⟩ := wA_e (p := D) 21 (n := 1234) (D.2 20 j) hj (by decide)
    refine ⟨D1, ?_, a1, by rw [Nat.zero_add]; exact b1, c1⟩
    show b_X9_keepsAside_2 _ D (nI j) = _
    unfold b_X9_keepsAside_2
    rw [if_neg (show ¬ (1234 : Int32) ≤ nI j from nI_ge (b := 1234) hj (by decide)), rA_n hj (by decide), bs, w1, bs, nI_1]) 1234 0 FU d (by omega) (FU_ge (by omega)) rfl (fun _ _ => rfl) (fun i => by rw [if_neg (by omega)])
  refine ⟨D, e, a, b, fun j hj => ?_⟩
  rw [c j, if_pos ⟨by omega, by omega⟩, Nat.sub_zero, Nat.zero_add]
  exact h j hj
theorem m_bb (h : ∀ j, j < 1234 → d.2 21 j = nI (X j)) : ∃ d', f_X9_bringsBack d = some d' ∧ SameX d d' ∧ MX d' X := by
  obtain ⟨D, e, a, b, c⟩ := loop_cp (d := d) (L := L_X9_bringsBack_2) (k0 := 21) (k1 := 20) (N := 1234) (o0 := 0) (o1 := 0) some (by decide) (fun n D => by
    show b_X9_bringsBack_2 _ D (nI 1234) = _
    unfold b_X9_bringsBack_2
    rw [if_pos (by decide)]) (fun n D j hj hD => by
    obtain ⟨D1, w1, a1, b1, c1⟩ := wA_e (p := D) 20 (n := 1234) (D.2 21 j) hj (by decide)
    refine ⟨D1, ?_, a1, by rw [Nat.zero_add]; exact b1, c1⟩
    show b_X9_bringsBack_2 _ D (nI j) = _
    unfold b_X9_bringsBack_2
    rw [if_neg (show ¬ (1234 : Int32) ≤ nI j from nI_ge (b := 1234) hj (by decide)), rA_n hj (by decide), bs, w1, bs, nI_1]) 1234 0 FU d (by omega) (FU_ge (by omega)) rfl (fun _ _ => rfl) (fun i => by rw [if_neg (by omega)])
  refine ⟨D, e, ⟨a, b⟩, fun j hj => ?_⟩
  rw [c j, if_pos ⟨by omega, by omega⟩, Nat.sub_zero, Nat.zero_add]
  exact h j hj
end CY
