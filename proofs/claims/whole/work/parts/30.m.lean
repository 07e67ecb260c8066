/-! (B) a page finds its place -/
theorem vu_self {X : Nat → Nat} {k v : Nat} (h : X k = v) : va_up X k v = X := by
  funext j
  by_cases e : j = k
  · subst e; rw [vu_s, h]
  · rw [vu_n e]
theorem ho17 : ∀ st, st < 5 → 0 < st → ∀ v, v < 16 → 0 < v → 0 < hoN v st ∧ hoN v st < 17 := by decide
section FR
variable {d p z : Pic} {X : Nat → Nat} {st q s : Nat}
theorem m_gw {Y : Nat → Nat} (h : MX d Y) (hn : Y 315 < 30) : ∃ d', f_X9_growsOld d (nI q) = some d' ∧ SameX d d' ∧ MX d' (gwX Y q) := by
  obtain ⟨d1, w1, s1, m1⟩ := m_w h (j := 285 + Y 315) q (by omega)
  obtain ⟨d2, w2, s2, m2⟩ := m_w m1 (j := 315) (Y 315 + 1) (by omega)
  refine ⟨d2, ?_, s1.tr s2, m2⟩
  unfold f_X9_growsOld
  rw [li 315, m_x h (by omega), bs, li 285, nI_add, w1, bs, m_x m1 (by omega), bs, nI_1, vu_n (by omega : (315 : Nat) ≠ 285 + Y 315), w2]
  rfl
theorem p_ay {n : Nat} (h : gS p 11 = nI n) (hn : n < 30) : ∃ p', f_X3_addYoungest p (nI q) = some p' ∧ gS p' 11 = nI (n + 1) ∧ (∀ k, k ≠ 11 → gS p' k = gS p k) ∧ (∀ k, k ≠ 10 → p'.2 k = p.2 k) ∧ p'.2 10 = upd (p.2 10) n (nI q) := by
  obtain ⟨p1, w1, a1, a2, a3⟩ := wA_e (p := p) 10 (n := 30) (j := n) (nI q) hn (by decide)
  obtain ⟨p2, w2, b1, b2, b3⟩ := pS_e p1 11 (nI (n + 1))
  have g1 : gS p1 11 = nI n := by unfold gS; rw [a1]; exact h
  refine ⟨p2, ?_, b1, fun k hk => ?_, fun k hk => by rw [b3, a3 k hk], by rw [b3, a2]⟩
  · unfold f_X3_addYoungest
    rw [h, li 30, if_neg (nI_ge hn (by decide)), w1, bs, g1, nI_1, w2]
    rfl
  · rw [b2 k hk]; unfold gS; rw [a1]
theorem PR.en {p' : Pic} {zn i : Nat} (hp : PR p X) (hI : IX st X) (hq : q < 30) (h2 : X (165 + q) ≠ 2) (hz : zn < 24) (hi : i < 16) (hsz : p.2 5 q = nI (X (195 + q))) (hc : ∀ i, i < 16 → p.2 9 (q * 16 + i) = nI (X (316 + 16 * q + i))) (h4 : p'.2 4 = upd (p.2 4) q 2) (h5 : p'.2 5 = p.2 5) (h6 : p'.2 6 = upd (p.2 6) q (nI zn)) (h7 : p'.2 7 = upd (p.2 7) q (nI i)) (h8 : p'.2 8 = p.2 8) (h9 : p'.2 9 = p.2 9) (h10 : p'.2 10 = upd (p.2 10) (X 315) (nI q)) (h11 : gS p' 11 = nI (X 315 + 1)) : PR p' (eX X q zn i s) := by
  have hn : X 315 < 30 := by have := hI.p29 hq h2; omega
  have vo := fun {j : Nat} => eX_o (X := X) (s := s) hq hz hi hn (j := j)
  have va := fun {k : Nat} => eX_a (X := X) (s := s) hq hz hi hn (k := k)
  have vp : ∀ r, r < 30 → eX X q zn i s (165 + r) = if r = q then 2 else X (165 + r) := by
    intro r hr
    rw [eX_m hq hz hi hn (by omega), in_p hq hz hi hr, vu_n (by omega)]
  refine ⟨fun r hr => ?_, fun r hr hr2 => ?_, fun r hr => ?_, fun r hr h0 j hj => ?_, ?_, fun k hk => ?_⟩
  · rw [h4, vp r hr]
    by_cases g : r = q
    · subst g; rw [up_s, if_pos rfl]; rfl
    · rw [up_n g, if_neg g]; exact hp.1 r hr
  · rw [vp r hr] at hr2
    rw [h5, h6, h7, vo (by omega), eX_m hq hz hi hn (by omega), eX_m hq hz hi hn (by omega), in_zn hq hz hi hr, in_st hq hz hi hr, vu_n (by omega), vu_n (by omega)]
    by_cases g : r = q
    · subst g
      rw [up_s, up_s, if_pos rfl, if_pos rfl]
      exact ⟨hsz, rfl, rfl⟩
    · rw [if_neg g] at hr2
      rw [up_n g, up_n g, if_neg g, if_neg g]
      exact hp.2.1 r hr hr2
  · rw [h8, vo (by omega)]
    exact hp.2.2.1 r hr
  · rw [vp r hr] at h0
    rw [h9, vo (by omega)]
    by_cases g : r = q
    · subst g; exact hc j hj
    · rw [if_neg g] at h0; exact hp.2.2.2.1 r hr h0 j hj
  · rw [eX_n hq hz hi]; exact h11
  · rw [eX_n hq hz hi] at hk
    rw [h10, va hk]
    by_cases g : k = X 315
    · subst g; rw [up_s, if_pos rfl]
    · rw [up_n g, if_neg g]; exact hp.2.2.2.2.2 k (by omega)
def SQ (st q s : Nat) (p : Pic) (X : Nat → Nat) : Prop := q < 30 ∧ X (165 + q) ≠ 2 ∧ s = hoN (X (195 + q)) st ∧ (3 ≤ X (195 + q) ∧ X (195 + q) ≤ 15) ∧ p.2 5 q = nI (X (195 + q)) ∧ (0 < s ∧ s < 17) ∧ ∀ i, i < 16 → p.2 9 (q * 16 + i) = nI (X (316 + 16 * q + i))
theorem both_en {zn : Nat} {dd : Pic} (h : RR st d p z X) (hS : SQ st q s p X) (hz : zn < 24) (hc : clX X zn = s ∨ (clX X zn = 0 ∧ frsX X + frN s ≤ 24)) (hf : filX X zn < slN s) (hd : MX dd (va_up X (796 + zn) s)) (hdd : SameX d dd) : ∃ d1 d' p' z' X', f_X9_comesInto dd (nI q) (nI zn) = some d1 ∧ f_X9_growsOld d1 (nI q) = some d' ∧ ((wA p 6 30 (nI q) (nI zn)).bind fun p_ad9 => (f_X7_putIn z (nI zn) (nI s) (nI q)).bind fun u10 => (wA p_ad9 7 30 (nI q) u10.1).bind fun p_ad11 => (wA p_ad11 4 30 (nI q) 2).bind fun p_ad12 => (f_X3_addYoungest p_ad12 (nI q)).bind fun u13 => some (u13, u10.2)) = some (p', z') ∧ SameX d d' ∧ RR st d' p' z' X' ∧ (∀ j, j < 165 → X' j = X j) ∧ (∀ k, k ≠ 11 → gS p' k = gS p k) ∧ (∀ k, 11 ≤ k → p'.2 k = p.2 k) := by
  obtain ⟨hm, hp, hzr, hI⟩ := h
  obtain ⟨hq, h2, he, ⟨hs1, hs2⟩, hsz, ⟨h0, hs⟩, hce⟩ := hS
  have hn : X 315 < 30 := by have := hI.p29 hq h2; omega
  have h16 := sl16 s hs
  have hwY : ZW (va_up X (796 + zn) s) := by
    intro r hr
    by_cases g : r = zn
    · subst g
      rw [cl_ups, fil_up (fun k hk => by omega)]
      exact ⟨hs, by omega⟩
    · rw [cl_up (by omega), fil_up (fun k hk => by omega)]
      exact hI.zw r hr
  have hsY : Sml (va_up X (796 + zn) s) := hI.sml.up (by omega)
  obtain ⟨i, hi, hi1, hi2⟩ := fs_some (X := va_up X (796 + zn) s) (s := s) (j := zn) h16 (by rw [fil_up (fun k hk => by omega)]; exact hf)
  rw [sl_up (by omega)] at hi2
  obtain ⟨d1, w1, s1, m1⟩ := m_in (p := q) hd hsY hq hz cl_ups hs h0 hi
  have e315 : inX (va_up X (796 + zn) s) q zn i 315 = X 315 := by rw [in_o (by omega) (by omega) (by omega) (by omega), vu_n (by omega)]
  obtain ⟨d2, w2, s2, m2⟩ := m_gw (q := q) m1 (by rw [e315]; exact hn)
  have hput : ∃ z', f_X7_putIn z (nI zn) (nI s) (nI q) = some (nI i, z') ∧ ZR z' (va_up (va_up X (796 + zn) s) (820 + 16 * zn + i) (q + 1)) := by
    rcases hc with c | ⟨c, -⟩
    · have e : va_up X (796 + zn) s = X := vu_self c
      rw [e] at hi ⊢
      exact z_put hzr hI.zw hI.sml hz c hs h0 hi
    · exact z_new hzr hI.zw hI.sml hz c hs h0 hi
  obtain ⟨z', v0, zr⟩ := hput
  obtain ⟨p1, v1, a1, a2, a3⟩ := wA_e (p := p) 6 (n := 30) (nI zn) hq (by decide)
  obtain ⟨p2, v2, b1, b2, b3⟩ := wA_e (p := p1) 7 (n := 30) (nI i) hq (by decide)
  obtain ⟨p3, v3, c1, c2, c3⟩ := wA_e (p := p2) 4 (n := 30) 2 hq (by decide)
  have g3 : gS p3 11 = nI (X 315) := by unfold gS; rw [c1, b1, a1]; exact hp.2.2.2.2.1
  obtain ⟨p4, v4, f1, f2, f3, f4⟩ := p_ay (q := q) g3 hn
  refine ⟨d1, d2, p4, z', eX X q zn i s, w1, w2, ?_, (hdd.tr s1).tr s2, ⟨m2, ?_, ?_, ?_⟩, fun j hj => ?_, fun k hk => ?_, fun k hk => ?_⟩
  · rw [v1, bs, v0, bs, v2, bs, v3, bs, v4]
    rfl
  · refine PR.en hp hI hq h2 hz (by omega) hsz hce ?_ ?_ ?_ ?_ ?_ ?_ ?_ f1
    · rw [f3 4 (by decide), c2, b3 4 (by decide), a3 4 (by decide)]
    · rw [f3 5 (by decide), c3 5 (by decide), b3 5 (by decide), a3 5 (by decide)]
    · rw [f3 6 (by decide), c3 6 (by decide), b3 6 (by decide), a2]
    · rw [f3 7 (by decide), c3 7 (by decide), b2, a3 7 (by decide)]
    · rw [f3 8 (by decide), c3 8 (by decide), b3 8 (by decide), a3 8 (by decide)]
    · rw [f3 9 (by decide), c3 9 (by decide), b3 9 (by decide), a3 9 (by decide)]
    · rw [f4, c3 10 (by decide), b3 10 (by decide), a3 10 (by decide)]
  · refine zr.eq (fun j ha hb => ?_)
    rw [eX_m hq hz (by omega) hn (by omega)]
    unfold inX
    rw [vu_n (by omega), vu_n (by omega), vu_n (by omega)]
  · exact hI.en hq h2 hz hs hi1 hi2 hf hc he hs1 hs2
  · exact eX_o hq hz (by omega) hn (by omega)
  · rw [f2 k hk]
    unfold gS
    rw [c1, b1, a1]
  · rw [f3 k (by omega), c3 k (by omega), b3 k (by omega), a3 k (by omega)]
theorem oI_none : oI none = -1 := rfl
theorem oI_some {n : Nat} : oI (some n) = nI n := rfl
def o2I (o : Option Nat) : Int32 := match o with
  | none => -2
  | some n => nI n
/-- the zone for a page of a size, one that is there or one to come -/
def nxX (X : Nat → Nat) (s : Nat) : Option Nat := match fulS X s none with
  | some z => some z
  | none => if frsX X + frN s ≤ X 0 then fzX X else none
theorem nx_f {zn : Nat} (h : fulS X s none = some zn) : nxX X s = some zn := by unfold nxX; rw [h]
theorem nx_n (h : fulS X s none = none) : nxX X s = if frsX X + frN s ≤ X 0 then fzX X else none := by unfold nxX; rw [h]
theorem p_zf (hp : gS p 0 = nI (X 0)) (hz : ZR z X) (hI : IX st X) (hs : s < 17) (h0 : 0 < s) : f_X3_zoneFor p z (nI s) = some (o2I (nxX X s)) := by
  have hob : oOk none := fun c hc => by cases hc
  have zf := (z_ful hz hI.zw hs hob).1
  have hfr := (fr_pos s hs h0)
  have hfx := hI.fr
  have hli := hI.li
  rw [oI_none] at zf
  unfold f_X3_zoneFor
  rw [zf, bs]
  obtain ⟨sp1, sp2⟩ := ful_sp (X := X) (s := s) (but := none)
  cases ef : fulS X s none with
  | some zn =>
    obtain ⟨c1, -, c3⟩ := sp2 zn ef
    rw [oI_some, if_neg (nI_pos (by omega)), nx_f ef]
    rfl
  | none =>
    rw [oI_none, if_pos (show (-1 : Int32) < 0 by decide), z_fz hz hI.zw, bs, nx_n ef]
    by_cases e : frsX X + frN s ≤ X 0
    · obtain ⟨zn, e1, e2, e3⟩ := fz_some hI.zw hs h0 (by omega)
      rw [e1, oI_some, if_neg (nI_pos (by omega)), X0_fr s hs, bs, hp, show gS z 0 = nI (frsX X) from hz.1, nI_add, if_neg (nI_nlt (by omega) (by omega)), if_pos e]
      rfl
    · rw [if_neg e]
      cases ez : fzX X with
      | none => rw [oI_none, if_pos (show (-1 : Int32) < 0 by decide)]; rfl
      | some zn =>
        have := (fnd_some ez).2.1
        rw [oI_some, if_neg (nI_pos (by omega)), X0_fr s hs, bs, hp, show gS z 0 = nI (frsX X) from hz.1, nI_add, if_pos (nI_lt (by omega) (by omega))]
        rfl
theorem both_fr (m : Nat) : ∀ (d p z : Pic) (X : Nat → Nat) (n v kd kp : Nat), X 315 = m → RR st d p z X → PT p X → gS p 0 = nI (X 0) → SQ st q s p X → GN d p n → n + X 315 ≤ 29 → v + X 315 ≤ 30 → 2 * m + 3 ≤ kd → m + 2 ≤ kp → ∃ d' p' z' X' n', L_X9_findsRoom_18 (nI q) kd d (nI s) = some d' ∧ L_X3_settle_16 (nI q) kp p z (nI s) (nI v) = some (p', z') ∧ FD d d' ∧ RR st d' p' z' X' ∧ PT p' X' ∧ GN d' p' n' ∧ (∀ j, j < 165 → j ≠ 1 → j ≠ 2 → X' j = X j) ∧ (∀ k, k < 11 → gS p' k = gS p k) := by
  induction m using Nat.strongRecOn with
  | _ m ih =>
    intro d p z X n v kd kp hX hR hT hlim hS hG hn hv hkd hkp
    obtain ⟨kd, rfl⟩ : ∃ k, kd = k + 2 := ⟨kd - 2, by omega⟩
    obtain ⟨kp, rfl⟩ : ∃ k, kp = k + 1 := ⟨kp - 1, by omega⟩
    have hR' := hR
    obtain ⟨hm, hp, hzr, hI⟩ := hR
    obtain ⟨hq, h2, he, ⟨hs1, hs2⟩, hsz, ⟨h0, hs⟩, hce⟩ := hS
    have h16 := sl16 s hs
    have hfr := (fr_pos s hs h0)
    have hfx := hI.fr
    have hli := hI.li
    show ∃ d' p' z' X' n', b_X9_findsRoom_18 (nI q) (L_X9_findsRoom_18 (nI q) (kd + 1)) d (nI s) = some d' ∧ b_X3_settle_16 (nI q) (L_X3_settle_16 (nI q) kp) p z (nI s) (nI v) = some (p', z') ∧ _
    unfold b_X9_findsRoom_18 b_X3_settle_16
    have hob : oOk none := fun c hc => by cases hc
    have mf := (m_ful hm hI.sml hI.zw hs h0 hob).1
    rw [oI_none] at mf
    rw [mf, bs, li 30, if_neg (nI_nlt (by omega) (by omega)), p_zf hlim hzr hI hs h0, bs]
    obtain ⟨sp1, sp2⟩ := ful_sp (X := X) (s := s) (but := none)
    cases ef : fulS X s none with
    | some zn =>
      obtain ⟨c1, -, c3⟩ := sp2 zn ef
      obtain ⟨c4, c5⟩ := loB_t.mp c3
      rw [nx_f ef, oI_some, if_neg (nI_m1 (by omega)), show o2I (some zn) = nI zn from rfl, if_neg (nI_pos (by omega))]
      obtain ⟨d1, d', p', z', X', w1, w2, w3, s3, r3, x3, g3, g4⟩ := both_en (dd := d) hR' ⟨hq, h2, he, ⟨hs1, hs2⟩, hsz, ⟨h0, hs⟩, hce⟩ c1 (Or.inl c4) c5 (by rw [vu_self (X := X) (k := 796 + zn) c4]; exact hm) SameX.rf
      refine ⟨d', p', z', X', n, ?_, w3, s3.fd, r3, fun t ht => ?_, ?_, fun j hj _ _ => x3 j hj, fun k hk => g3 k (by omega)⟩
      · rw [w1, bs, w2]
        rfl
      · rw [g4 12 (by omega), x3 _ (by omega)]; exact hT t ht
      · refine ⟨?_, ?_, hG.2.2.1, fun j hj => ?_⟩
        · rw [s3.g]; exact hG.1
        · rw [g3 14 (by omega)]; exact hG.2.1
        · rw [s3.2 42 (by decide), g4 13 (by omega)]; exact hG.2.2.2 j hj
    | none =>
      have nol := sp1 ef
      have m0 : rA d 20 1234 0 = some (nI (X 0)) := m_x hm (j := 0) (by omega)
      rw [nx_n ef, oI_none, if_pos rfl, m_fnow hm hI.zw, bs, X9_fr s hs h0, bs, m0, bs, nI_add]
      by_cases er : frsX X + frN s ≤ X 0
      · obtain ⟨zn, e1, e2, e3⟩ := fz_some hI.zw hs h0 (by omega)
        rw [if_pos er, if_neg (nI_nlt er (by omega)), m_fz hm hI.zw e1, bs, e1, show o2I (some zn) = nI zn from rfl, if_neg (nI_pos (by omega)), li 796, nI_add]
        have hf0 : filX X zn = 0 := by
          have := (hI.zw zn e2).2
          rw [e3, fr_0.2] at this
          omega
        obtain ⟨dd, w0, s0, m1⟩ := m_w hm (j := 796 + zn) s (by omega)
        have hwY : ZW (va_up X (796 + zn) s) := by
          intro r hr
          by_cases g : r = zn
          · subst g
            rw [cl_ups, fil_up (fun k hk => by omega)]
            exact ⟨hs, by omega⟩
          · rw [cl_up (by omega), fil_up (fun k hk => by omega)]
            exact hI.zw r hr
        have hsY : Sml (va_up X (796 + zn) s) := hI.sml.up (by omega)
        have hful : fulS (va_up X (796 + zn) s) s none = some zn := by
          obtain ⟨tp1, tp2⟩ := ful_sp (X := va_up X (796 + zn) s) (s := s) (but := none)
          cases ey : fulS (va_up X (796 + zn) s) s none with
          | none =>
            exfalso
            have := tp1 ey zn e2 (by intro c; cases c)
            have t : loB (va_up X (796 + zn) s) s zn = true := loB_t.mpr ⟨cl_ups, by rw [fil_up (fun k hk => by omega)]; omega⟩
            rw [this] at t
            cases t
          | some c =>
            obtain ⟨c1, -, c3⟩ := tp2 c ey
            by_cases g : c = zn
            · rw [g]
            · exfalso
              obtain ⟨c4, c5⟩ := loB_t.mp c3
              rw [cl_up (by omega)] at c4
              rw [fil_up (fun k hk => by omega)] at c5
              have t := nol c c1 (by intro c; cases c)
              rw [loB_t.mpr ⟨c4, c5⟩] at t
              cases t
        obtain ⟨d1, d', p', z', X', w1, w2, w3, s3, r3, x3, g3, g4⟩ := both_en (dd := dd) hR' ⟨hq, h2, he, ⟨hs1, hs2⟩, hsz, ⟨h0, hs⟩, hce⟩ e2 (Or.inr ⟨e3, by omega⟩) (by omega) m1 s0
        refine ⟨d', p', z', X', n, ?_, w3, s3.fd, r3, fun t ht => ?_, ?_, fun j hj _ _ => x3 j hj, fun k hk => g3 k (by omega)⟩
        · rw [w0, bs]
          show b_X9_findsRoom_18 (nI q) (L_X9_findsRoom_18 (nI q) kd) dd (nI s) = some d'
          unfold b_X9_findsRoom_18
          have mf2 := (m_ful m1 hsY hwY hs h0 hob).1
          rw [oI_none, hful, oI_some] at mf2
          rw [mf2, bs, if_neg (nI_m1 (by omega)), w1, bs, w2]
          rfl
        · rw [g4 12 (by omega), x3 _ (by omega)]; exact hT t ht
        · refine ⟨?_, ?_, hG.2.2.1, fun j hj => ?_⟩
          · rw [s3.g]; exact hG.1
          · rw [g3 14 (by omega)]; exact hG.2.1
          · rw [s3.2 42 (by decide), g4 13 (by omega)]; exact hG.2.2.2 j hj
      · rw [if_neg er, if_pos (nI_lt (by omega) (by omega)), m_cf hm hI, bs, show o2I none = -2 from rfl, if_pos (show (-2 : Int32) < 0 by decide), p_cf hp hI, bs]
        cases ec : cfX X with
        | none =>
          rw [oI_none, if_pos rfl, if_neg (show ¬ (0 : Int32) ≤ -1 by decide)]
          obtain ⟨d1, p1, X1, w1, w2, s1, r1, x1, x2, t1, g1, g2⟩ := both_wn hR' hq h2 hce
          have hG1 : GN d1 p1 n := by
            refine ⟨?_, ?_, hG.2.2.1, fun j hj => ?_⟩
            · rw [s1.g]; exact hG.1
            · rw [g1 14]; exact hG.2.1
            · rw [s1.2 42 (by decide), g2 13 (by omega) (by omega)]; exact hG.2.2.2 j hj
          obtain ⟨d2, p2, w3, w4, f2, r2, gn2, t2, k1, k2, k3⟩ := both_np (q := q) r1 hG1 (by omega)
          refine ⟨d2, p2, z, va_up X1 2 (X1 2 + 1), n + 1, ?_, ?_, s1.fd.tr f2, r2, t2 (t1 hT), gn2, fun j hj a b => ?_, fun k hk => ?_⟩
          · rw [w1, bs, w3]
            rfl
          · unfold b_X3_settle_104
            rw [w2, bs, w4]
            rfl
          · rw [vu_n b]; exact x2 j hj a
          · rw [k1 k (by omega), g1]
        | some c =>
          obtain ⟨q1, q2, q3⟩ := cf_some hI ec
          rw [oI_some, if_neg (nI_m1 (by omega)), if_pos (nI_pos' (by omega))]
          obtain ⟨d1, p1, z1, X1, w1, w2, s1, r1, wf, -, -⟩ := both_wc hR' ec
          obtain ⟨a1, a2, a3, a4, a5, a6, a7, a8, a9, a10, a11⟩ := wf
          have hG1 : GN d1 p1 n := by
            refine ⟨?_, ?_, hG.2.2.1, fun j hj => ?_⟩
            · rw [s1.g]; exact hG.1
            · rw [a7 14 (by omega)]; exact hG.2.1
            · rw [s1.2 42 (by decide), a10]; exact hG.2.2.2 j hj
          obtain ⟨d2, p2, w3, w4, f2, r2, gn2, t2, k1, k2, k3⟩ := both_np (q := c) r1 hG1 (by omega)
          rw [w1, bs, w2, bs]
          show ∃ d' p' z' X' n', ((f_X9_countsPushed d1 (nI c)).bind fun u11 => L_X9_findsRoom_18 (nI q) (kd + 1) u11 (nI s)) = some d' ∧ ((f_X3_notePushed p1 (nI c)).bind fun u8 => L_X3_settle_16 (nI q) kp u8 z1 (nI s) (nI v + 1)) = some (p', z') ∧ _
          rw [w3, bs, w4, bs, nI_1]
          have hne : q ≠ c := fun g => h2 (by rw [g]; exact q2)
          have v315 : va_up X1 2 (X1 2 + 1) 315 = X1 315 := vu_n (by omega)
          obtain ⟨d', p', z', X', n', b1, b2, b3, b4, b5, b6, b7, b8⟩ := ih (X1 315) (by omega) d2 p2 z1 (va_up X1 2 (X1 2 + 1)) (n + 1) (v + 1) (kd + 1) kp v315 r2 (t2 (a11 hT)) (by rw [k1 0 (by omega), a7 0 (by omega), vu_n (by omega), a2 0 (by omega) (by omega)]; exact hlim) ⟨hq, by rw [vu_n (by omega), a3 q hq hne]; exact h2, by rw [vu_n (by omega), a4 _ (by omega) (by omega)]; exact he, by rw [vu_n (by omega), a4 _ (by omega) (by omega)]; exact ⟨hs1, hs2⟩, by rw [k2 5 (by omega) (by omega), a8, vu_n (by omega), a4 _ (by omega) (by omega)]; exact hsz, ⟨h0, hs⟩, fun i hi => by rw [k2 9 (by omega) (by omega), a9, vu_n (by omega), a5 _ (by omega) (by omega)]; exact hce i hi⟩ gn2 (by omega) (by omega) (by omega) (by omega)
          refine ⟨d', p', z', X', n', b1, b2, (s1.fd.tr f2).tr b3, b4, b5, b6, fun j hj a b => ?_, fun k hk => ?_⟩
          · rw [b7 j hj a b, vu_n b, a2 j hj a]
          · rw [b8 k hk, k1 k (by omega), a7 k (by omega)]
end FR
