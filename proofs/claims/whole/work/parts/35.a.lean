/-! (B) class and reference in step: the relation of all pictures -/
def CM (m d : Pic) : Prop := gS m 3 = gS d 1 ∧ gS m 4 = gS d 31 ∧ gS d 2 = (if gS m 3 = 4 then gS m 5 else -1)
def TPR (m b d : Pic) : Prop := ∃ tl T, gS m 1 = nI tl ∧ gS d 25 = nI tl ∧ tl ≤ 900 ∧ TPE b d T
def UNT (m d p h : Pic) : Prop := gS m 2 = 0 ∧ gS d 19 = 0 ∧ gS h 2 = 0 ∧ gS d 23 = 0 ∧ (∃ en, gS h 1 = nI en ∧ en ≤ 10) ∧ ∀ q, q < 30 → p.2 4 q = 0
def TLX (st bg nd no : Nat) (X : Nat → Nat) (m sc t p z e h : Pic) (rs : Nat → Option Q4) (d : Pic) : Prop := (gS m 2 = 1 ∧ gS d 19 = 1) ∧ ((1 ≤ st ∧ st ≤ 4) ∧ bg ≤ 15 ∧ nd ≤ 10 ∧ no ≤ 24) ∧ (gS d 3 = nI st ∧ gS d 4 = nI bg ∧ gS d 5 = nI nd ∧ gS d 6 = nI no) ∧ (gS sc 1 = nI st ∧ gS sc 2 = nI bg ∧ gS sc 3 = nI nd ∧ gS sc 4 = nI no) ∧ OPR nd no sc d ∧ RR st d p z X ∧ PT p X ∧ ST st bg nd t p e X ∧ HR st bg nd h rs d
def TS (m sc t p z e h : Pic) (rs : Nat → Option Q4) (d : Pic) : Prop := UNT m d p h ∨ ∃ st bg nd no X, TLX st bg nd no X m sc t p z e h rs d
def RLX (m b sc c t p z e h : Pic) (rs : Nat → Option Q4) (d : Pic) : Prop := CM m d ∧ TPR m b d ∧ SMC d ∧ CIc c ∧ TS m sc t p z e h rs d
def KX (d d' : Pic) : Prop := (∀ k, (2 < k ∧ k < 7) ∨ k = 19 ∨ k = 23 → gS d' k = gS d k) ∧ (∀ k, (11 < k ∧ k < 15) ∨ k = 22 → d'.2 k = d.2 k) ∧ ∀ j, j < 1234 → d'.2 20 j = d.2 20 j
/-- what a question leaves alone -/
def KD (d d' : Pic) : Prop := (∀ k, 0 < k → k < 33 → gS d' k = gS d k) ∧ (∀ k, k < 33 → k ≠ 20 → k ≠ 21 → d'.2 k = d.2 k) ∧ ∀ j, j < 1234 → d'.2 20 j = d.2 20 j
theorem KD.kx {d d' : Pic} (h : KD d d') : KX d d' := ⟨fun k hk => h.1 k (by omega) (by omega), fun k hk => h.2.1 k (by omega) (by omega) (by omega), h.2.2⟩
theorem KD.rf {d : Pic} : KD d d := ⟨fun _ _ _ => rfl, fun _ _ _ _ => rfl, fun _ _ => rfl⟩
theorem KD.tr {a b c : Pic} (h1 : KD a b) (h2 : KD b c) : KD a c := ⟨fun k x y => (h2.1 k x y).trans (h1.1 k x y), fun k x y z => (h2.2.1 k x y z).trans (h1.2.1 k x y z), fun j hj => (h2.2.2 j hj).trans (h1.2.2 j hj)⟩
theorem KD.z {d : Pic} {x : Int32} : KD d (pS d 0 x) := ⟨fun k h _ => gS_n (by omega), fun _ _ _ _ => rfl, fun _ _ => rfl⟩
theorem FC.kd {d d' : Pic} (h : FC d d') : KD d d' := ⟨fun k _ _ => h.1 k (by omega), fun k _ _ _ => h.2 k (by omega), fun j _ => by rw [h.2 20 (by omega)]⟩
section RLX
variable {m b sc c t p z e h d m' d' c' : Pic} {rs : Nat → Option Q4} {st bg nd no : Nat} {X : Nat → Nat}
theorem TLX.fr (H : TLX st bg nd no X m sc t p z e h rs d) (hm : gS m' 2 = gS m 2) (k : KX d d') : TLX st bg nd no X m' sc t p z e h rs d' := by
  obtain ⟨⟨a1, a2⟩, a3, ⟨b1, b2, b3, b4⟩, a5, a6, a7, a8, a9, a10⟩ := H
  refine ⟨⟨by rw [hm]; exact a1, by rw [k.1 19 (by omega)]; exact a2⟩, a3, ⟨by rw [k.1 3 (by omega)]; exact b1, by rw [k.1 4 (by omega)]; exact b2, by rw [k.1 5 (by omega)]; exact b3, by rw [k.1 6 (by omega)]; exact b4⟩, a5, a6.of (k.2.1 12 (by omega)) (k.2.1 13 (by omega)) (k.2.1 14 (by omega)), ⟨fun j hj => by rw [k.2.2 j hj]; exact a7.1 j hj, a7.2⟩, a8, a9, a10.of (k.1 23 (by omega)) (k.2.1 22 (by omega))⟩
theorem TS.fr (H : TS m sc t p z e h rs d) (hm : gS m' 2 = gS m 2) (k : KX d d') : TS m' sc t p z e h rs d' := by
  rcases H with ⟨a1, a2, a3, a4, a5⟩ | ⟨st, bg, nd, no, X, H⟩
  · exact Or.inl ⟨by rw [hm]; exact a1, by rw [k.1 19 (by omega)]; exact a2, a3, by rw [k.1 23 (by omega)]; exact a4, a5⟩
  · exact Or.inr ⟨st, bg, nd, no, X, H.fr hm k⟩
theorem RLX.d0 (H : RLX m b sc c t p z e h rs d) : RLX m b sc c t p z e h rs (pS d 0 0) := by
  obtain ⟨⟨a1, a2, a3⟩, ⟨tl, T, b1, b2, b3, b4⟩, h3, h4, h5⟩ := H
  exact ⟨⟨a1, a2, a3⟩, ⟨tl, T, b1, b2, b3, b4⟩, h3, h4, h5.fr rfl KD.z.kx⟩
/-- an answer told -/
theorem RLX.set (H : RLX m b sc c t p z e h rs d) (k : KD d d') (hc : CIc c') (w : Int32) (hw : ¬ w = 4) : RLX (pS m 3 w) b sc c' t p z e h rs (pS (pS d' 1 w) 2 (-1)) := by
  obtain ⟨⟨a1, a2, a3⟩, ⟨tl, T, b1, b2, b3, b4⟩, h3, h4, h5⟩ := H
  refine ⟨⟨by rw [gS_s, gS_n (by decide), gS_s], by rw [gS_n (by decide), gS_n (by decide), gS_n (by decide), k.1 31 (by decide) (by decide)]; exact a2, by rw [gS_s, gS_s, if_neg hw]⟩, ⟨tl, T, by rw [gS_n (by decide)]; exact b1, by rw [gS_n (by decide), gS_n (by decide), k.1 25 (by decide) (by decide)]; exact b2, b3, b4.of (by rw [pS_a, pS_a]; exact k.2.1 24 (by decide) (by decide) (by decide))⟩, fun j hj => by rw [pS_a, pS_a, k.2.1 18 (by decide) (by decide) (by decide)]; exact h3 j hj, hc, h5.fr (gS_n (by decide)) ⟨fun q hq => ?_, fun q hq => by rw [pS_a, pS_a]; exact k.kx.2.1 q hq, fun j hj => by rw [pS_a, pS_a]; exact k.2.2 j hj⟩⟩
  rw [gS_n (by omega), gS_n (by omega)]
  exact k.kx.1 q hq
theorem aG (H : RLX m b sc c t p z e h rs d) (k : KD d d') (x : Int32) : ∃ v m' d'', ((f_X8_answer m x).bind fun u => some (u.1, u.2)) = some (v, m') ∧ ((f_X9_good d' x).bind fun u => some (u.1, u.2)) = some (v, d'') ∧ RLX m' b sc c t p z e h rs d'' := ⟨x, _, _, rfl, rfl, H.set k H.2.2.2.1 0 (by decide)⟩
theorem aR (H : RLX m b sc c t p z e h rs d) (k : KD d d') (w : Int32) (hw : ¬ w = 4) : ∃ v m' d'', ((f_X8_refuse m w).bind fun u => some (u.1, u.2)) = some (v, m') ∧ ((f_X9_refused d' w).bind fun u => some (u.1, u.2)) = some (v, d'') ∧ RLX m' b sc c t p z e h rs d'' := ⟨-1, _, _, rfl, rfl, H.set k H.2.2.2.1 w hw⟩
/-! calls that tell one number -/
theorem q_fault (H : RLX m b sc c t p z e h rs d) : ∃ v d', f_X8_fault m = some v ∧ f_X9_fault d = some (v, d') ∧ RLX m b sc c t p z e h rs d' := by
  refine ⟨gS m 4, pS d 0 0, rfl, ?_, H.d0⟩
  unfold f_X9_fault
  rw [bs, gS_n (by decide), H.1.2.1]
theorem q_where (H : RLX m b sc c t p z e h rs d) : ∃ v d', f_X8_where m = some v ∧ f_X9_where d = some (v, d') ∧ RLX m b sc c t p z e h rs d' := by
  refine ⟨gS d 2, pS d 0 0, ?_, ?_, H.d0⟩
  · unfold f_X8_where
    rw [H.1.2.2]
    by_cases g : gS m 3 = 4
    · rw [if_pos g, if_pos g]
    · rw [if_neg g, if_neg g]
  · unfold f_X9_where
    rw [bs, gS_n (by decide)]
theorem q_trouble (H : RLX m b sc c t p z e h rs d) : ∃ v d', f_X8_trouble m = some v ∧ f_X9_trouble d = some (v, d') ∧ RLX m b sc c t p z e h rs d' := by
  refine ⟨gS m 3, pS d 0 0, rfl, ?_, H.d0⟩
  unfold f_X9_trouble
  rw [bs, gS_n (by decide), H.1.1]
theorem q_size (H : RLX m b sc c t p z e h rs d) (x : Int32) : ∃ v d', f_X8_size m h x = some v ∧ f_X9_size d x = some (v, d') ∧ RLX m b sc c t p z e h rs d' := by
  obtain ⟨tl, T, b1, b2, _⟩ := H.2.1
  have hk : gS h 2 = gS d 23 := by
    rcases H.2.2.2.2 with ⟨a1, a2, a3, a4, a5⟩ | ⟨st, bg, nd, no, X, H⟩
    · rw [a3, a4]
    · obtain ⟨na, en, ⟨a1, a2, _⟩, _⟩ := H.2.2.2.2.2.2.2.2
      rw [a1, a2]
  unfold f_X8_size f_X9_size
  rw [bs, gS_n (by decide), gS_n (by decide)]
  by_cases g : x = 0
  · rw [if_pos g, if_pos g]
    exact ⟨_, _, rfl, by rw [b1, b2], H.d0⟩
  · rw [if_neg g, if_neg g]
    by_cases g1 : x = 1
    · rw [if_pos g1, if_pos g1]
      exact ⟨_, _, rfl, by rw [hk], H.d0⟩
    · rw [if_neg g1, if_neg g1]
      exact ⟨_, _, rfl, rfl, H.d0⟩
end RLX
/-! a text becomes the swap -/
theorem i32_n (x : Int32) : ∃ n, n < 2 ^ 32 ∧ x = nI n := ⟨x.toBitVec.toNat, x.toBitVec.isLt, Int32.toBitVec_inj.mp (by show _ = BitVec.ofNat 32 _; simp)⟩
section SW
variable {m b sc c t p z e h d r : Pic} {rs : Nat → Option Q4} {st bg nd no : Nat} {X : Nat → Nat}
theorem mx_ex (d : Pic) : ∃ X, MX d X := ⟨fun j => Classical.choose (i32_n (d.2 20 j)), fun j _ => (Classical.choose_spec (i32_n (d.2 20 j))).2⟩
theorem m_to39 (hno : no ≤ 24) : ∀ (k j n : Nat) (D : Pic), j + k = 24 → k < n → D.1 = d.1 → (∀ r, r < 12 ∨ 14 < r → D.2 r = d.2 r) → (∀ i, i < j → D.2 12 i = d.2 15 i ∧ D.2 13 i = d.2 16 i ∧ D.2 14 i = d.2 17 i) → ∃ D', L_X9_takesOver_39 n D (nI j) = ((f_X9_clears D').bind fun u6 => (wA u6 20 1234 0 (gS u6 7)).bind fun d_ad7 => L_X9_takesOver_103 FU d_ad7 0) ∧ D'.1 = d.1 ∧ (∀ r, r < 12 ∨ 14 < r → D'.2 r = d.2 r) ∧ ∀ i, i < 24 → D'.2 12 i = d.2 15 i ∧ D'.2 13 i = d.2 16 i ∧ D'.2 14 i = d.2 17 i := by
  intro k
  induction k with
  | zero =>
    intro j n D h1 h2 e1 e2 e3
    cases n with
    | zero => omega
    | succ n =>
      have : j = 24 := by omega
      subst this
      refine ⟨D, ?_, e1, e2, e3⟩
      show b_X9_takesOver_39 _ D (nI 24) = _
      unfold b_X9_takesOver_39
      rw [if_pos (by decide)]
  | succ k ih =>
    intro j n D h1 h2 e1 e2 e3
    cases n with
    | zero => omega
    | succ n =>
      obtain ⟨D1, w1, a1, b1, c1⟩ := wA_e (p := D) 12 (n := 24) (j := j) (D.2 15 j) (by omega) (by decide)
      obtain ⟨D2, w2, a2, b2, c2⟩ := wA_e (p := D1) 13 (n := 24) (j := j) (D1.2 16 j) (by omega) (by decide)
      obtain ⟨D3, w3, a3, b3, c3⟩ := wA_e (p := D2) 14 (n := 24) (j := j) (D2.2 17 j) (by omega) (by decide)
      have s12 : D3.2 12 = upd (D.2 12) j (D.2 15 j) := by rw [c3 12 (by decide), c2 12 (by decide), b1]
      have s13 : D3.2 13 = upd (D.2 13) j (D.2 16 j) := by rw [c3 13 (by decide), b2, c1 13 (by decide), c1 16 (by decide)]
      have s14 : D3.2 14 = upd (D.2 14) j (D.2 17 j) := by rw [b3, c2 14 (by decide), c1 14 (by decide), c2 17 (by decide), c1 17 (by decide)]
      obtain ⟨D', f1, f2, f3, f4⟩ := ih (j + 1) n D3 (by omega) (by omega) (by rw [a3, a2, a1]; exact e1) (fun r hr => by rw [c3 r (by omega), c2 r (by omega), c1 r (by omega)]; exact e2 r hr) (fun i hi => by
        rw [s12, s13, s14]
        by_cases g : i = j
        · subst g
          rw [up_s, up_s, up_s, e2 15 (by omega), e2 16 (by omega), e2 17 (by omega)]
          exact ⟨rfl, rfl, rfl⟩
        · rw [up_n g, up_n g, up_n g]
          exact e3 i (by omega))
      refine ⟨D', ?_, f2, f3, f4⟩
      show b_X9_takesOver_39 _ D (nI j) = _
      unfold b_X9_takesOver_39
      rw [if_neg (show ¬ (24 : Int32) ≤ nI j from nI_ge (b := 24) (by omega) (by decide)), rA_n (by omega) (by decide), bs, w1, bs, rA_n (by omega) (by decide), bs, w2, bs, rA_n (by omega) (by decide), bs, w3, bs, nI_1]
      exact f1
theorem m_to103 {V : Nat → Nat} (hV : ∀ j, j < 160 → d.2 18 j = nI (V j)) : ∀ (k j n : Nat) (D : Pic) (Y : Nat → Nat), j + k = 160 → k < n → D.1 = d.1 → (∀ r, r ≠ 20 → D.2 r = d.2 r) → MX D Y → (∀ i, i < j → Y (5 + i) = V i) → ∃ D' Y', L_X9_takesOver_103 n D (nI j) = some (pS D' 23 0) ∧ D'.1 = d.1 ∧ (∀ r, r ≠ 20 → D'.2 r = d.2 r) ∧ MX D' Y' ∧ (∀ i, i < 160 → Y' (5 + i) = V i) ∧ ∀ i, i < 5 ∨ 165 ≤ i → Y' i = Y i := by
  intro k
  induction k with
  | zero =>
    intro j n D Y h1 h2 e1 e2 e3 e4
    cases n with
    | zero => omega
    | succ n =>
      have : j = 160 := by omega
      subst this
      refine ⟨D, Y, ?_, e1, e2, e3, e4, fun _ _ => rfl⟩
      show b_X9_takesOver_103 _ D (nI 160) = _
      unfold b_X9_takesOver_103
      rw [if_pos (by decide), bs]
  | succ k ih =>
    intro j n D Y h1 h2 e1 e2 e3 e4
    cases n with
    | zero => omega
    | succ n =>
      obtain ⟨D1, w1, s1, x1⟩ := m_w e3 (V j) (j := 5 + j) (by omega)
      obtain ⟨D', Y', f1, f2, f3, f4, f5, f6⟩ := ih (j + 1) n D1 _ (by omega) (by omega) (by rw [s1.1]; exact e1) (fun r hr => by rw [s1.2 r hr]; exact e2 r hr) x1 (fun i hi => by
        by_cases g : i = j
        · subst g; exact vu_s
        · rw [vu_n (by omega)]; exact e4 i (by omega))
      refine ⟨D', Y', ?_, f2, f3, f4, f5, fun i hi => by rw [f6 i hi, vu_n (by omega)]⟩
      show b_X9_takesOver_103 _ D (nI j) = _
      unfold b_X9_takesOver_103
      rw [if_neg (show ¬ (160 : Int32) ≤ nI j from nI_ge (b := 160) (by omega) (by decide)), rA_n (by omega) (by decide), bs, e2 18 (by decide), hV j (by omega), show (5 : Int32) = nI 5 from rfl, nI_add, w1, bs, nI_1]
      exact f1
/-- the reference takes over what was read -/
theorem m_to {l : Nat} (hl : gS d 7 = nI l) (hsm : SMC d) (hno : no ≤ 24) : ∃ (d' : Pic) (V : Nat → Nat), f_X9_takesOver d = some d' ∧ (∀ j, j < 160 → V j < 100 ∧ d.2 18 j = nI (V j)) ∧ MX d' (clrX (fun j => V (j - 5)) l) ∧ (gS d' 19 = 1 ∧ gS d' 3 = gS d 8 ∧ gS d' 4 = gS d 9 ∧ gS d' 5 = gS d 10 ∧ gS d' 6 = gS d 11 ∧ gS d' 23 = 0) ∧ (∀ i, i < 24 → d'.2 12 i = d.2 15 i ∧ d'.2 13 i = d.2 16 i ∧ d'.2 14 i = d.2 17 i) ∧ (∀ k, 23 < k → gS d' k = gS d k) ∧ d'.2 24 = d.2 24 ∧ d'.2 18 = d.2 18 := by
  obtain ⟨d1, u1, x1, y1, z1⟩ := pS_e d 19 1
  obtain ⟨d2, u2, x2, y2, z2⟩ := pS_e d1 3 (gS d1 8)
  obtain ⟨d3, u3, x3, y3, z3⟩ := pS_e d2 4 (gS d2 9)
  obtain ⟨d4, u4, x4, y4, z4⟩ := pS_e d3 5 (gS d3 10)
  obtain ⟨d5, u5, x5, y5, z5⟩ := pS_e d4 6 (gS d4 11)
  have a5 : d5.2 = d.2 := by rw [z5, z4, z3, z2, z1]
  obtain ⟨d6, w6, a6, b6, c6⟩ := m_to39 (d := d5) hno 24 0 FU d5 (by omega) (FU_ge (by omega)) rfl (fun _ _ => rfl) (fun i hi => by omega)
  have g6 : ∀ k, gS d6 k = gS d5 k := fun k => by unfold gS; rw [a6]
  obtain ⟨X, hX⟩ := mx_ex d6
  obtain ⟨d7, w7, s7, x7⟩ := m_clr hX
  have g57 : gS d5 7 = nI l := by rw [y5 7 (by decide), y4 7 (by decide), y3 7 (by decide), y2 7 (by decide), y1 7 (by decide)]; exact hl
  obtain ⟨d8, w8, s8, x8⟩ := m_w x7 l (j := 0) (by decide)
  have hV : ∃ V : Nat → Nat, ∀ j, j < 160 → V j < 100 ∧ d.2 18 j = nI (V j) := by
    refine ⟨fun j => if hj : j < 160 then Classical.choose (hsm j hj) else 0, fun j hj => ?_⟩
    dsimp only
    rw [dif_pos hj]
    exact Classical.choose_spec (hsm j hj)
  obtain ⟨V, hV⟩ := hV
  have a8 : ∀ r, r ≠ 20 → d8.2 r = d6.2 r := fun r hr => by rw [s8.2 r hr, s7.2 r hr]
  obtain ⟨d9, Y9, w9, a9, b9, x9, f9, h9⟩ := m_to103 (d := d8) (V := V) (fun j hj => by rw [a8 18 (by decide), b6 18 (by omega), a5]; exact (hV j hj).2) 160 0 FU d8 _ (by omega) (FU_ge (by omega)) rfl (fun _ _ => rfl) x8 (fun i hi => by omega)
  obtain ⟨dd, ud, xd, yd, zd⟩ := pS_e d9 23 0
  have gd : ∀ k, k ≠ 23 → gS dd k = gS d5 k := fun k hk => by
    rw [yd k hk]
    unfold gS
    rw [a9, s8.1, s7.1, a6]
  have add : ∀ r, r ≠ 20 → dd.2 r = d6.2 r := fun r hr => by rw [zd, b9 r hr, a8 r hr]
  refine ⟨dd, V, ?_, hV, ?_, ⟨?_, ?_, ?_, ?_, ?_, xd⟩, fun i hi => ?_, fun k hk => ?_, ?_, ?_⟩
  · unfold f_X9_takesOver
    rw [bs, u1, bs, u2, bs, u3, bs, u4, bs, u5]
    have w6' : L_X9_takesOver_39 FU d5 0 = ((f_X9_clears d6).bind fun u6 => (wA u6 20 1234 0 (gS u6 7)).bind fun d_ad7 => L_X9_takesOver_103 FU d_ad7 0) := w6
    have w8' : wA d7 20 1234 0 (nI l) = some d8 := w8
    have w9' : L_X9_takesOver_103 FU d8 0 = some (pS d9 23 0) := w9
    rw [w6', w7, bs, s7.g, g6, g57, w8', bs, w9', ud]
  · intro j hj
    rw [zd, x9 j hj]
    refine congrArg nI ?_
    by_cases g : 5 ≤ j ∧ j < 165
    · rw [clr_d g.1 g.2]
      have := f9 (j - 5) (by omega)
      rwa [show 5 + (j - 5) = j by omega] at this
    · rw [h9 j (by omega)]
      by_cases g0 : j = 0
      · subst g0; rw [vu_s, clr_0]
      · rw [vu_n g0, clr_z g0 (by omega), clr_z g0 (by omega)]
  · rw [gd 19 (by decide), y5 19 (by decide), y4 19 (by decide), y3 19 (by decide), y2 19 (by decide)]; exact x1
  · rw [gd 3 (by decide), y5 3 (by decide), y4 3 (by decide), y3 3 (by decide), x2, y1 8 (by decide)]
  · rw [gd 4 (by decide), y5 4 (by decide), y4 4 (by decide), x3, y2 9 (by decide), y1 9 (by decide)]
  · rw [gd 5 (by decide), y5 5 (by decide), x4, y3 10 (by decide), y2 10 (by decide), y1 10 (by decide)]
  · rw [gd 6 (by decide), x5, y4 11 (by decide), y3 11 (by decide), y2 11 (by decide), y1 11 (by decide)]
  · have := c6 i hi
    rw [add 12 (by decide), add 13 (by decide), add 14 (by decide), ← a5]
    exact this
  · rw [gd k (by omega), y5 k (by omega), y4 k (by omega), y3 k (by omega), y2 k (by omega), y1 k (by omega)]
  · rw [add 24 (by decide), b6 24 (by omega), a5]
  · rw [add 18 (by decide), b6 18 (by omega), a5]
/-- sizes of data, one by one -/
theorem x_ms1 {k : Nat} (hk : k < 10) (hC : CIc c) : ∃ c' t', f_X6_measure c t e (nI k) = some (c', t') ∧ CIc c' ∧ t'.1 = t.1 ∧ (∀ r, r ≠ 1 → t'.2 r = t.2 r) ∧ t'.2 1 = upd (t.2 1) k (nI (TT (fun j => e.2 0 (16 * k + j)) 0).1) := by
  obtain ⟨C', w1, a1, b1, c1, t1⟩ := x_ms (C := c) (e := e) (fr := k * 16) (c := fun j => e.2 0 (16 * k + j)) (by omega) hC.1 hC.2 (fun j hj => by rw [Nat.mul_comm])
  obtain ⟨t', w2, a2, b2, c2⟩ := wA_e (p := t) 1 (n := 10) (j := k) (nI (TT (fun j => e.2 0 (16 * k + j)) 0).1) hk (by decide)
  refine ⟨C', t', ?_, ⟨?_, ?_⟩, a2, c2, b2⟩
  · unfold f_X6_measure
    rw [if_neg (nI_pos (by omega)), if_neg (show ¬ (10 : Int32) ≤ nI k from nI_ge (b := 10) hk (by decide)), show (16 : Int32) = nI 16 from rfl, nI_mul, w1, bs, show (0 : Int32) = nI 0 from rfl, rA_n (by decide) (by decide), bs, (t1 0 (by omega) (by omega)).1, w2, bs]
  · rw [(t1 16 (by omega) (by omega)).1, TT_16]
  · rw [(t1 16 (by omega) (by omega)).2, TT_16]
theorem x_bgl (h3 : gS sc 3 = nI nd) (hnd : nd ≤ 10) : ∀ (k v n : Nat) (c t : Pic), v + k = nd → k < n → CIc c → (∀ i, i < v → t.2 1 i = nI (TT (fun j => e.2 0 (16 * i + j)) 0).1) → ∃ c' t', L_X6_begin_18 sc n c t p z e (nI v) = ((f_X3_begin p z (gS sc 0) (gS sc 1) (gS sc 2)).bind fun u2 => some (c', t', u2.1, u2.2, e)) ∧ CIc c' ∧ ∀ i, i < nd → t'.2 1 i = nI (TT (fun j => e.2 0 (16 * i + j)) 0).1 := by
  intro k
  induction k with
  | zero =>
    intro v n c t h1 h2 hC ht
    cases n with
    | zero => omega
    | succ n =>
      have : v = nd := by omega
      subst this
      refine ⟨c, t, ?_, hC, ht⟩
      show b_X6_begin_18 sc _ c t p z e (nI v) = _
      unfold b_X6_begin_18
      rw [h3, if_pos (nI_le (Nat.le_refl _) (by omega))]
  | succ k ih =>
    intro v n c t h1 h2 hC ht
    cases n with
    | zero => omega
    | succ n =>
      obtain ⟨c1, t1, w1, a1, b1, d1, e1⟩ := x_ms1 (e := e) (t := t) (k := v) (by omega) hC
      obtain ⟨c', t', f1, f2, f3⟩ := ih (v + 1) n c1 t1 (by omega) (by omega) a1 (fun i hi => by
        rw [e1]
        by_cases g : i = v
        · subst g; rw [up_s]
        · rw [up_n g]; exact ht i (by omega))
      refine ⟨c', t', ?_, f2, f3⟩
      show b_X6_begin_18 sc _ c t p z e (nI v) = _
      unfold b_X6_begin_18
      rw [h3, if_neg (nI_ge (by omega) (by omega)), w1, bs, nI_1]
      exact f1
end SW
