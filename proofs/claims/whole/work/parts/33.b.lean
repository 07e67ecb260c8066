/-! (B) ops: one, all from nothing on, a run of them -/
theorem tt_cg {c c' : Nat → Int32} (h : ∀ j, j < 16 → c j = c' j) : (TT c 0).1 = (TT c' 0).1 := by
  obtain ⟨C1, w1, _, _, _, t1⟩ := x_ms (C := P0) (e := (fun _ => 0, fun _ j => c j)) (fr := 0) (c := c) (by omega) rfl rfl (fun j hj => by show c (0 + j) = c j; rw [Nat.zero_add])
  obtain ⟨C2, w2, _, _, _, t2⟩ := x_ms (C := P0) (e := (fun _ => 0, fun _ j => c j)) (fr := 0) (c := c') (by omega) rfl rfl (fun j hj => by show c (0 + j) = c' j; rw [Nat.zero_add]; exact h j hj)
  have e : C1 = C2 := Option.some.inj (w1.symm.trans w2)
  subst e
  have := (t1 0 (by omega) (by omega)).1.symm.trans (t2 0 (by omega) (by omega)).1
  have b1 := tt_b (c := c)
  have b2 := tt_b (c := c')
  exact (nI_eq (by omega) (by omega)).mp this
def OPR (nd no : Nat) (s d : Pic) : Prop := ∀ i, i < no → ∃ w q k, (s.2 6 i = nI w ∧ d.2 12 i = nI w ∧ w < 3) ∧ (s.2 7 i = nI q ∧ d.2 13 i = nI q ∧ q < 30) ∧ s.2 8 i = d.2 14 i ∧ (w = 0 → s.2 8 i = nI k ∧ k < nd)
theorem OPR.of {nd no : Nat} {s d d' : Pic} (h : OPR nd no s d) (h1 : d'.2 12 = d.2 12) (h2 : d'.2 13 = d.2 13) (h3 : d'.2 14 = d.2 14) : OPR nd no s d' := fun i hi => by
  rw [h1, h2, h3]; exact h i hi
theorem OPR.fd {nd no : Nat} {s d d' : Pic} (h : OPR nd no s d) (f : FD d d') : OPR nd no s d' := h.of (f.2 12 (by decide) (by decide)) (f.2 13 (by decide) (by decide)) (f.2 14 (by decide) (by decide))
section OS
variable {d p z e t m sc p' : Pic} {X X' : Nat → Nat} {st q k bg nd no i : Nat}
theorem ST.kp (h : ST st bg nd t p e X) (hn : nd ≤ 10) (hg : ∀ k, k < 3 → gS p' k = gS p k) (h0 : X' 0 = X 0) (hx : ∀ j, 5 ≤ j → j < 165 → X' j = X j) : ST st bg nd t p' e X' := by
  obtain ⟨a1, a2, a3, a4, a5⟩ := h
  refine ⟨by rw [hg 0 (by decide), h0]; exact a1, by rw [hg 1 (by decide)]; exact a2, by rw [hg 2 (by decide)]; exact a3, fun j hj => by rw [hx _ (by omega) (by omega)]; exact a4 j hj, fun k hk => ?_⟩
  rw [a5 k hk, tt_cg (c := dcX X' k) (c' := dcX X k) (fun j hj => by unfold dcX; rw [hx _ (by omega) (by omega)])]
theorem both_pf (hR : RR st d p z X) (hT : PT p X) (hS : ST st bg nd t p e X) (hst : 1 ≤ st ∧ st ≤ 4) (hbg : bg ≤ 15) (hd3 : gS d 3 = nI st) (hd4 : gS d 4 = nI bg) (hn : nd ≤ 10) (hno : no ≤ 24) (hm : ¬ gS m 2 = 0) (h3 : gS sc 3 = nI nd) (hO : OPR nd no sc d) (hi : i < no) : ∃ d' p' z' X', f_X9_does d (nI i) = some d' ∧ f_X8_perform m sc t p z e (nI i) = some (p', z') ∧ FD d d' ∧ RR st d' p' z' X' ∧ PT p' X' ∧ ST st bg nd t p' e X' ∧ X' 0 = X 0 ∧ ∀ j, 5 ≤ j → j < 165 → X' j = X j := by
  obtain ⟨w, q, k, ⟨a1, a2, a3⟩, ⟨b1, b2, b3⟩, c1, c2⟩ := hO i hi
  have r12 : rA d 12 24 (nI i) = some (nI w) := by rw [rA_n (by omega) (by decide), a2]
  have r13 : rA d 13 24 (nI i) = some (nI q) := by rw [rA_n (by omega) (by decide), b2]
  have r14 : rA d 14 24 (nI i) = some (sc.2 8 i) := by rw [rA_n (by omega) (by decide), c1]
  have r6 : rA sc 6 24 (nI i) = some (nI w) := by rw [rA_n (by omega) (by decide), a1]
  have r7 : rA sc 7 24 (nI i) = some (nI q) := by rw [rA_n (by omega) (by decide), b1]
  have r8 : rA sc 8 24 (nI i) = some (sc.2 8 i) := by rw [rA_n (by omega) (by decide)]
  have ed : f_X9_does d (nI i) = if nI w = 0 then (f_X9_stores d (nI q) (sc.2 8 i)).bind fun u7 => some (u7.2) else if nI w = 1 then (f_X9_loads d (nI q)).bind fun u5 => some (u5) else (f_X9_dropsOne d (nI q)).bind fun u4 => some (u4) := by
    unfold f_X9_does
    rw [r13, bs, r12, bs, bs, r14, bs]
  have ep : f_X8_perform m sc t p z e (nI i) = if nI w = 1 then (f_X3_loadPage p (nI q)).bind fun u9 => some (u9, z) else if nI w = 2 then (f_X3_dropPage p z (nI q)).bind fun u8 => some (u8.1, u8.2) else (f_X8_noData m sc (sc.2 8 i)).bind fun u5 => if u5 = 0 then (rA t 1 10 (sc.2 8 i)).bind fun v6_ => (f_X3_storePage p z e (nI q) ((sc.2 8 i) * 16) v6_).bind fun u7 => some (u7.1, u7.2) else some (p, z) := by
    unfold f_X8_perform
    rw [r7, bs, r8, bs, r6, bs, bs]
  rw [ed, ep]
  by_cases w0 : w = 0
  · subst w0
    obtain ⟨k1, k2⟩ := c2 rfl
    obtain ⟨v, d', p', z', X', n, e1, e2, e3, e4, e5, e6, e7, e8, e9⟩ := both_st hR hT hS hst hbg hd3 hd4 b3 k2 hn
    refine ⟨d', p', z', X', ?_, ?_, e4, e5, e6, hS.kp hn (fun k hk => e9 k (by omega)) (e8 0 (by decide) (by decide) (by decide)) (fun j h5 hj => e8 j hj (by omega) (by omega)), e8 0 (by decide) (by decide) (by decide), fun j h5 hj => e8 j hj (by omega) (by omega)⟩
    · rw [if_pos (by decide), k1, e1, bs]
    · have hnd : f_X8_noData m sc (nI k) = some 0 := by
        unfold f_X8_noData
        rw [if_neg hm, if_neg (nI_pos (by omega)), h3, if_pos (nI_lt k2 (by omega))]
      rw [if_neg (by decide), if_neg (by decide), k1, hnd, bs, if_pos rfl, rA_n (by omega) (by decide), bs, hS.2.2.2.2 k k2, show (16 : Int32) = nI 16 from rfl, nI_mul, e2, bs]
  · rw [if_neg (fun g => w0 ((nI_e0 (by omega)).mp g))]
    by_cases w1 : w = 1
    · subst w1
      obtain ⟨d', p', X', e1, e2, e3, e4, e5, e6, e7, e8, e9⟩ := both_ld hR hT b3
      refine ⟨d', p', z, X', ?_, ?_, e3.fd, e4, e5, hS.kp hn (fun k hk => e8 k (by omega)) (e7 0 (by decide) (by decide)) (fun j h5 hj => e7 j hj (by omega)), e7 0 (by decide) (by decide), fun j h5 hj => e7 j hj (by omega)⟩
      · rw [if_pos (by decide), e1, bs]
      · rw [if_pos (by decide), e2, bs]
    · have w2 : w = 2 := by omega
      subst w2
      obtain ⟨d', p', z', X', e1, e2, e3, e4, e5, e6, e7, e8⟩ := both_drop hR b3
      refine ⟨d', p', z', X', ?_, ?_, e3.fd, e4, fun t ht => ?_, hS.kp hn (fun k hk => e7 k (by omega)) (e6 0 (by decide)) (fun j h5 hj => e6 j hj), e6 0 (by decide), fun j h5 hj => e6 j hj⟩
      · rw [if_neg (by decide), e1, bs]
      · rw [if_neg (by decide), if_pos (by decide), e2, bs]
      · rw [e8 12 (by decide), e6 _ (by omega)]; exact hT t ht
/-- all ops, from one on -/
theorem both_ops (hst : 1 ≤ st ∧ st ≤ 4) (hbg : bg ≤ 15) (hn : nd ≤ 10) (hno : no ≤ 24) (hm : ¬ gS m 2 = 0) (h3 : gS sc 3 = nI nd) (h4 : gS sc 4 = nI no) (x1 x2 x3 y1 y2 v4 : Int32) : ∀ (r v m1 m2 : Nat) (d p z : Pic) (X : Nat → Nat), v + r = no → r < m1 → r < m2 → RR st d p z X → PT p X → ST st bg nd t p e X → gS d 3 = nI st → gS d 4 = nI bg → gS d 6 = nI no → OPR nd no sc d → ∃ d' p' z' X', L_X9_foretells_29 x1 x2 x3 m1 d v4 (nI v) = ((rA d' 20 1234 (1 + x3)).bind fun v5_ => (some (pS d' 3 v4)).bind fun d_ad6 => (f_X9_bringsBack d_ad6).bind fun u7 => some (v5_, u7)) ∧ L_X8_foretell_18 m sc t e y1 y2 m2 p z (nI v) = some (p', z') ∧ FD d d' ∧ RR st d' p' z' X' ∧ PT p' X' := by
  intro r
  induction r with
  | zero =>
    intro v m1 m2 d p z X hv hm1 hm2 hR hT hS g3 g4 g6 hO
    cases m1 with
    | zero => omega
    | succ m1 =>
      cases m2 with
      | zero => omega
      | succ m2 =>
        have : v = no := by omega
        subst this
        refine ⟨d, p, z, X, ?_, ?_, FD.rf, hR, hT⟩
        · show b_X9_foretells_29 x1 x2 x3 _ d v4 (nI v) = _
          unfold b_X9_foretells_29
          rw [g6, if_pos (nI_le (Nat.le_refl _) (by omega))]
        · show b_X8_foretell_18 m sc t e y1 y2 _ p z (nI v) = _
          unfold b_X8_foretell_18
          rw [h4, if_pos (nI_le (Nat.le_refl _) (by omega))]
  | succ r ih =>
    intro v m1 m2 d p z X hv hm1 hm2 hR hT hS g3 g4 g6 hO
    cases m1 with
    | zero => omega
    | succ m1 =>
      cases m2 with
      | zero => omega
      | succ m2 =>
        obtain ⟨d1, p1, z1, X1, e1, e2, e3, e4, e5, e6, e7, e8⟩ := both_pf hR hT hS hst hbg g3 g4 hn hno hm h3 hO (i := v) (by omega)
        obtain ⟨d', p', z', X', f1, f2, f3, f4, f5⟩ := ih (v + 1) m1 m2 d1 p1 z1 X1 (by omega) (by omega) (by omega) e4 e5 e6 ((e3.1 3 (by decide)).trans g3) ((e3.1 4 (by decide)).trans g4) ((e3.1 6 (by decide)).trans g6) (hO.fd e3)
        refine ⟨d', p', z', X', ?_, ?_, e3.tr f3, f4, f5⟩
        · show b_X9_foretells_29 x1 x2 x3 _ d v4 (nI v) = _
          unfold b_X9_foretells_29
          rw [g6, if_neg (nI_ge (by omega) (by omega)), e1, bs, nI_1]
          exact f1
        · show b_X8_foretell_18 m sc t e y1 y2 _ p z (nI v) = _
          unfold b_X8_foretell_18
          rw [h4, if_neg (nI_ge (by omega) (by omega)), e2, bs, nI_1]
          exact f2
/-- foretold: p, z stand for the pool in thought, t, e for what is told now -/
theorem both_ft {pn zn pt zt : Pic} {l b w : Nat} (hR : RR st d pn zn X) (hS : ST st bg nd t pn e X) (hl : l ≤ 24) (hb : 1 ≤ b ∧ b ≤ 4) (hw : w < 3) (hbg : bg ≤ 15) (hd3 : gS d 3 = nI st) (hd4 : gS d 4 = nI bg) (hd6 : gS d 6 = nI no) (hn : nd ≤ 10) (hno : no ≤ 24) (hm : ¬ gS m 2 = 0) (h2 : gS sc 2 = nI bg) (h3 : gS sc 3 = nI nd) (h4 : gS sc 4 = nI no) (hO : OPR nd no sc d) : ∃ d' pt' zt' v, f_X9_foretells d (nI l) (nI b) (nI w) = some (v, d') ∧ f_X8_foretell m sc t pt zt e (nI l) (nI b) = some (pt', zt') ∧ pt'.2 12 w = v ∧ (∀ k, k < 33 → gS d' k = gS d k) ∧ (∀ k, k < 33 → k ≠ 20 → k ≠ 21 → d'.2 k = d.2 k) ∧ MX d' X := by
  obtain ⟨d1, w1, a1, b1, c1⟩ := m_ka hR.1
  have hx1 : MX d1 X := fun j hj => by rw [b1 20 (by decide)]; exact hR.1 j hj
  obtain ⟨d2, d3, p3, z3, w2, w3, s3, w4, r3, t3, q0, q1, q2⟩ := both_bg (p := pt) (z := zt) (st := b) (l := l) hx1 (fun j h5 _ => hR.2.2.2.sml j h5) hl (nI b) (gS sc 2)
  obtain ⟨d4, w5, a5, b5, c5⟩ := pS_e d3 3 (nI b)
  have hx4 : RR b d4 p3 z3 (clrX X l) := ⟨fun j hj => by rw [c5]; exact r3.1 j hj, r3.2⟩
  have hd1 : ∀ k, gS d1 k = gS d k := fun k => by unfold gS; rw [a1]
  have hS3 : ST b bg nd t p3 e (clrX X l) := by
    refine ⟨by rw [clr_0]; exact q0, q1, q2.trans h2, fun j hj => by rw [clr_d (by omega) (by omega)]; exact hS.2.2.2.1 j hj, fun k hk => ?_⟩
    rw [hS.2.2.2.2 k hk, tt_cg (c := dcX (clrX X l) k) (c' := dcX X k) (fun j hj => by unfold dcX; rw [clr_d (by omega) (by omega)])]
  have hO4 : OPR nd no sc d4 := hO.of (by rw [c5, s3.2 12 (by decide), b1 12 (by decide)]) (by rw [c5, s3.2 13 (by decide), b1 13 (by decide)]) (by rw [c5, s3.2 14 (by decide), b1 14 (by decide)])
  have g4 : ∀ k, k ≠ 3 → gS d4 k = gS d k := fun k hk => by rw [b5 k hk, s3.g, hd1]
  obtain ⟨d5, p5, z5, X5, f1, f2, f3, f4, f5⟩ := both_ops (m := m) (sc := sc) hb hbg hn hno hm h3 h4 (nI l) (nI b) (nI w) (nI l) (nI b) (gS d 3) no 0 FU FU d4 p3 z3 _ (by omega) (FU_ge (by omega)) (FU_ge (by omega)) hx4 t3 hS3 a5 ((g4 4 (by decide)).trans hd4) ((g4 6 (by decide)).trans hd6) hO4
  obtain ⟨d6, w6, a6, b6, c6⟩ := pS_e d5 3 (gS d 3)
  have h21 : ∀ j, j < 1234 → d6.2 21 j = nI (X j) := fun j hj => by rw [c6, f3.2 21 (by decide) (by decide), c5, s3.2 21 (by decide)]; exact c1 j hj
  obtain ⟨d7, w7, s7, x7⟩ := m_bb h21
  refine ⟨d7, p5, z5, nI (X5 (1 + w)), ?_, ?_, f5 w (by omega), fun k hk => ?_, fun k hk h20 h21 => ?_, x7⟩
  · unfold f_X9_foretells
    rw [w1, bs, w2, bs, w3, bs, bs, w5]
    show L_X9_foretells_29 (nI l) (nI b) (nI w) FU d4 (gS d 3) (nI 0) = _
    rw [f1, show (1 : Int32) + nI w = nI (1 + w) from nI_add 1 w, m_x f4.1 (by omega), bs, bs, w6, w7, bs]
  · unfold f_X8_foretell
    rw [w4, bs]
    exact f2
  · rw [s7.g]
    by_cases g : k = 3
    · subst g; exact a6
    · rw [b6 k g, f3.1 k hk, g4 k g]
  · rw [s7.2 k h20, c6, f3.2 k hk h20, c5, s3.2 k h20, b1 k h21]
/-- a run of ops -/
theorem both_rn {ma h : Pic} {rs : Nat → Option Q4} {i n : Nat} (hst : 1 ≤ st ∧ st ≤ 4) (hbg : bg ≤ 15) (hn : nd ≤ 10) (hno : no ≤ 24) (hm : ¬ gS m 2 = 0) (h3 : gS sc 3 = nI nd) (hi : i < no) (hn24 : n ≤ 24) : ∀ (r v m1 m2 : Nat) (d p z : Pic) (X : Nat → Nat), v + r = n → r < m1 → r < m2 → i + v ≤ no → RR st d p z X → PT p X → ST st bg nd t p e X → gS d 3 = nI st → gS d 4 = nI bg → gS d 6 = nI no → OPR nd no sc d → ∃ d' p' z' X' w, L_X9_run_52 (nI i) (nI n) m1 d (nI v) = b_X9_run_80 (nI i) (nI n) d' (nI w) ∧ L_X8_run_59 sc t e (nI i) (nI n) m2 m h p z rs (nI (if i + n < no then i + n else no)) (nI (i + v)) = ((f_X8_answer m (nI w)).bind fun u5 => some (u5.1, u5.2, h, p', z', rs)) ∧ FD d d' ∧ RR st d' p' z' X' ∧ PT p' X' ∧ ST st bg nd t p' e X' := by
  intro r
  induction r with
  | zero =>
    intro v m1 m2 d p z X hv hm1 hm2 hvo hR hT hS g3 g4 g6 hO
    cases m1 with
    | zero => omega
    | succ m1 =>
      cases m2 with
      | zero => omega
      | succ m2 =>
        have : v = n := by omega
        subst this
        have he : (if i + v < no then i + v else no) = i + v := by split <;> omega
        refine ⟨d, p, z, X, v, ?_, ?_, FD.rf, hR, hT, hS⟩
        · show b_X9_run_52 (nI i) (nI v) _ d (nI v) = _
          unfold b_X9_run_52
          rw [if_pos (nI_le (Nat.le_refl _) (by omega))]
        · show b_X8_run_59 sc t e (nI i) (nI v) _ m h p z rs _ _ = _
          unfold b_X8_run_59
          rw [he, if_pos (nI_le (Nat.le_refl _) (by omega)), nI_sub (by omega), Nat.add_sub_cancel_left]
  | succ r ih =>
    intro v m1 m2 d p z X hv hm1 hm2 hvo hR hT hS g3 g4 g6 hO
    cases m1 with
    | zero => omega
    | succ m1 =>
      cases m2 with
      | zero => omega
      | succ m2 =>
        by_cases hlast : i + v = no
        · have he : (if i + n < no then i + n else no) = i + v := by split <;> omega
          refine ⟨d, p, z, X, v, ?_, ?_, FD.rf, hR, hT, hS⟩
          · show b_X9_run_52 (nI i) (nI n) _ d (nI v) = _
            unfold b_X9_run_52
            rw [if_neg (nI_ge (by omega) (by omega)), g6, nI_add, if_pos (nI_le (by omega) (by omega))]
          · show b_X8_run_59 sc t e (nI i) (nI n) _ m h p z rs _ _ = _
            unfold b_X8_run_59
            rw [he, if_pos (nI_le (Nat.le_refl _) (by omega)), nI_sub (by omega), Nat.add_sub_cancel_left]
        · obtain ⟨d1, p1, z1, X1, e1, e2, e3, e4, e5, e6, e7, e8⟩ := both_pf hR hT hS hst hbg g3 g4 hn hno hm h3 hO (i := i + v) (by omega)
          obtain ⟨d', p', z', X', w, f1, f2, f3, f4, f5, f6⟩ := ih (v + 1) m1 m2 d1 p1 z1 X1 (by omega) (by omega) (by omega) (by omega) e4 e5 e6 ((e3.1 3 (by decide)).trans g3) ((e3.1 4 (by decide)).trans g4) ((e3.1 6 (by decide)).trans g6) (hO.fd e3)
          have hend : i + v < (if i + n < no then i + n else no) ∧ (if i + n < no then i + n else no) ≤ 24 := by split <;> omega
          refine ⟨d', p', z', X', w, ?_, ?_, e3.tr f3, f4, f5, f6⟩
          · show b_X9_run_52 (nI i) (nI n) _ d (nI v) = _
            unfold b_X9_run_52
            rw [if_neg (nI_ge (by omega) (by omega)), g6, nI_add, if_neg (nI_ge (by omega) (by omega)), e1, bs, nI_1]
            exact f1
          · show b_X8_run_59 sc t e (nI i) (nI n) _ m h p z rs _ _ = _
            unfold b_X8_run_59
            rw [if_neg (nI_ge hend.1 (by omega)), e2, bs, nI_1]
            exact f2
end OS
