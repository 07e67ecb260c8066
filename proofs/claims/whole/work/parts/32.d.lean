/-! (B) compacting -/
def Sq (X : Nat → Nat) : Nat := sm (fun j => filX X j * filX X j) 0 24
theorem sqd : ∀ a, a < 17 → ∀ b, b < 17 → 0 < a → a ≤ b → a * a + b * b + 2 ≤ (a - 1) * (a - 1) + (b + 1) * (b + 1) := by decide
theorem sm_at {f : Nat → Nat} {i k z : Nat} (h1 : z ≤ i) (h2 : i < z + k) : f i ≤ sm f z k := by
  have := sm_up (f := f) (g := va_up f i 0) (i := i) k z h1 h2 (fun j hj => (vu_n hj).symm)
  rw [vu_s] at this
  omega
theorem sm_0 {f : Nat → Nat} {k z : Nat} (h : ∀ j, z ≤ j → j < z + k → f j = 0) : sm f z k = 0 := by
  have := sm_le (f := f) (b := 0) k z (fun j a b => by rw [h j a b]; exact Nat.le_refl _)
  omega
theorem sm_16 {f : Nat → Nat} : ∀ k z, sm (fun j => 16 * f j) z k = 16 * sm f z k
  | 0, _ => rfl
  | k + 1, z => by
    show 16 * f z + sm (fun j => 16 * f j) (z + 1) k = 16 * (f z + sm f (z + 1) k)
    rw [sm_16 k (z + 1)]
    omega
section CO
variable {d p z : Pic} {X : Nat → Nat} {st q s g t i i' : Nat}
theorem sq_le (hI : IX st X) : Sq X ≤ 480 := by
  have h1 : Sq X ≤ sm (fun j => 16 * filX X j) 0 24 := sm_mono _ _ (fun j _ _ => Nat.mul_le_mul (fil_le X j) (Nat.le_refl _))
  rw [sm_16, hI.tot] at h1
  have := hI.a30
  omega
theorem ZW.lv (hw : ZW X) (hi : i < 16) (hs : slX X g i ≠ 0) (hg : g < 24) : ZW (lvX X g i) := by
  intro j hj
  have h1 := hw j hj
  have hp := fil_pos hi hs
  rw [lv_cl hi hs hj hg, lv_fil hi hs hg]
  by_cases e : j = g
  · subst e
    rw [if_pos rfl]
    by_cases f : filX X j = 1
    · rw [if_pos ⟨rfl, f⟩, f]
      exact ⟨by omega, Nat.zero_le _⟩
    · rw [if_neg (fun c => f c.2)]
      exact ⟨h1.1, by omega⟩
  · rw [if_neg (fun c => e c.1), if_neg e]
    exact h1
def loC (X : Nat → Nat) (s : Nat) : Nat := sm (fun j => if loB X s j = true then 1 else 0) 0 24
theorem m_lo (h : MX d X) (hl : Sml X) (hw : ZW X) (hs : s < 17) (h0 : 0 < s) : f_X9_looseOf d (nI s) = some (nI (loC X s)) := by
  have key := loop_sm (L := L_X9_looseOf_4 d (nI s)) (fin := some) (f := fun j => if loB X s j = true then 1 else 0) (m := 24) (fun n acc => ?_) (fun n acc j hj => ?_) 24 0 FU 0 rfl (FU_ge (by omega))
  · rw [Nat.zero_add] at key
    exact key
  · show b_X9_looseOf_4 d (nI s) _ (nI acc) (nI 24) = _
    unfold b_X9_looseOf_4
    rw [li 24, if_pos (nI_le (Nat.le_refl 24) (by decide))]
  · show b_X9_looseOf_4 d (nI s) _ (nI acc) (nI j) = _
    unfold b_X9_looseOf_4 b_X9_looseOf_32
    have := (hw j hj).1
    rw [li 24, if_neg (nI_ge hj (by decide)), m_cl h hj, bs]
    by_cases e : clX X j = s
    · rw [if_pos (by rw [e]), m_full h hl hw hj (by omega), bs]
      have lo := m_loose hw hj e
      by_cases f : loB X s j = true
      · rw [if_neg (lo.mp f), if_pos rfl, if_pos f, nI_1, nI_1]
      · have : filX X j = slN (clX X j) := Decidable.byContradiction (fun q => f (lo.mpr q))
        rw [if_pos this, if_neg (by decide), if_neg f, nI_1, show nI acc + 0 = nI (acc + 0) from nI_add acc 0]
    · rw [if_neg (fun q => e ((nI_eq (by omega) (by omega)).mp q)), if_neg (fun q => e (loB_t.mp q).1), nI_1, show nI acc + 0 = nI (acc + 0) from nI_add acc 0]
theorem lo_two (h : 1 < loC X s) : ∃ g t, empS X s = some g ∧ fulS X s (some g) = some t := by
  have he := emp_sp (X := X) (s := s)
  cases e : empS X s with
  | none =>
    exfalso
    have : loC X s = 0 := sm_0 (fun j a b => by rw [if_neg (by rw [he.1 e j (by omega)]; decide)])
    omega
  | some g =>
    have hf := ful_sp (X := X) (s := s) (but := some g)
    cases f : fulS X s (some g) with
    | some t => exact ⟨g, t, rfl, f⟩
    | none =>
      exfalso
      have g24 := (he.2 g e).1
      have := sm_upr (f := fun j => if loB X s j = true then 1 else 0) (g := fun _ => 0) (i := g) 24 0 (by omega) (by omega) (fun j a b hj => by
        show (if loB X s j = true then 1 else 0) = 0
        rw [if_neg (by rw [hf.1 f j (by omega) (fun w => hj (Option.some.inj w).symm)]; decide)])
      rw [sm_0 (f := fun _ => 0) (fun _ _ _ => rfl)] at this
      unfold loC at h
      split at this <;> omega
theorem lo_one (h : ¬ 1 < loC X s) : empS X s = none ∨ ∃ g, empS X s = some g ∧ fulS X s (some g) = none := by
  have he := emp_sp (X := X) (s := s)
  cases e : empS X s with
  | none => exact Or.inl rfl
  | some g =>
    refine Or.inr ⟨g, rfl, ?_⟩
    have hf := ful_sp (X := X) (s := s) (but := some g)
    cases f : fulS X s (some g) with
    | none => rfl
    | some t =>
      exfalso
      obtain ⟨g24, gl, -⟩ := he.2 g e
      obtain ⟨t24, tn, tl⟩ := hf.2 t f
      have hne : t ≠ g := fun w => tn (by rw [w])
      have := sm_up (f := fun j => if loB X s j = true then 1 else 0) (g := va_up (fun j => if loB X s j = true then 1 else 0) g 0) (i := g) 24 0 (by omega) (by omega) (fun j hj => by rw [vu_n hj])
      have h2 := sm_at (f := va_up (fun j => if loB X s j = true then 1 else 0) g 0) (i := t) (k := 24) (z := 0) (by omega) (by omega)
      rw [vu_n hne] at h2
      rw [vu_s] at this
      rw [if_pos gl] at this
      rw [if_pos tl] at h2
      unfold loC at h
      omega
theorem ls_some (h : filX X g ≠ 0) : ∃ i, lsX X g = some i ∧ i < 16 ∧ slX X g i ≠ 0 := by
  cases e : lsX X g with
  | some i =>
    have := lst_some e
    exact ⟨i, rfl, this.1, by simpa using this.2⟩
  | none =>
    exfalso
    have h1 := lst_none e
    exact h (sm_0 (fun j _ hj => by
      have := h1 j (by omega)
      rw [if_pos (by simpa using this)]))
theorem m_17 {x v3 : Int32} (h : MX d X) (hl : Sml X) (hg : g < 24) : ∀ (k n : Nat), k < 16 → k < n → lst (fun i => decide (slX X g i ≠ 0)) (k + 1) = some i → L_X9_moves_17 x n d (nI g) v3 (nI k) = (f_X9_leaves d (nI (slX X g i) - 1)).bind fun u7 => (f_X9_comesInto u7 (nI (slX X g i) - 1) v3).bind fun u8 => (rA u8 20 1234 4).bind fun v9_ => (wA u8 20 1234 4 (v9_ + 1)).bind fun d_ad10 => some (d_ad10) := by
  intro k
  induction k with
  | zero =>
    intro n _ hn hi
    cases n with
    | zero => omega
    | succ n =>
      show b_X9_moves_17 x _ d (nI g) v3 (nI 0) = _
      unfold b_X9_moves_17
      unfold lst at hi
      have hlt := hl (820 + 16 * g + 0) (by omega)
      rw [m_at, bs, m_x h (by omega), bs, bs, m_x h (by omega), bs]
      by_cases e : slX X g 0 ≠ 0
      · rw [if_pos (by simpa using e)] at hi
        cases hi
        rw [if_neg (fun w => e ((nI_e0 hlt).mp w))]
        rfl
      · rw [if_neg (by simpa using e)] at hi
        cases hi
  | succ k ih =>
    intro n hk hn hi
    cases n with
    | zero => omega
    | succ n =>
      show b_X9_moves_17 x (L_X9_moves_17 x n) d (nI g) v3 (nI (k + 1)) = _
      unfold b_X9_moves_17
      unfold lst at hi
      have hlt := hl (820 + 16 * g + (k + 1)) (by omega)
      rw [m_at, bs, m_x h (by omega), bs, bs, m_x h (by omega), bs, nI_dec]
      by_cases e : slX X g (k + 1) ≠ 0
      · rw [if_pos (by simpa using e)] at hi
        cases hi
        rw [if_neg (fun w => e ((nI_e0 hlt).mp w))]
        rfl
      · rw [if_neg (by simpa using e)] at hi
        have e0 : slX X g (k + 1) = 0 := by simpa using e
        rw [if_pos ((nI_e0 hlt).mpr e0)]
        exact ih n (by omega) (by omega) hi
theorem both_mv (h : RR st d p z X) (hs : s < 17) (h0 : 0 < s) (hg : empS X s = some g) (ht : fulS X s (some g) = some t) : ∃ q d' p' z' X', f_X9_moves d (nI s) = some d' ∧ f_X7_lastPage z (nI g) = some (nI q) ∧ (∀ k2 v2, b_X3_compactClass_50 (nI s) k2 p z v2 (nI t) (nI q) = k2 p' z' (v2 + 1)) ∧ SameX d d' ∧ RR st d' p' z' X' ∧ (PT p X → PT p' X') ∧ (∀ j, j < 165 → j ≠ 4 → X' j = X j) ∧ (∀ k, gS p' k = gS p k) ∧ Sq X + 2 ≤ Sq X' := by
  obtain ⟨hm, hp, hz, hI⟩ := h
  obtain ⟨g24, gl, gmin⟩ := emp_sp.2 g hg
  obtain ⟨t24, tn, tl⟩ := (ful_sp (but := some g)).2 t ht
  have hne : t ≠ g := fun w => tn (by rw [w])
  have glo := loB_t.mp gl
  have tlo := loB_t.mp tl
  have hfg : filX X g ≠ 0 := hI.clz g g24 (by omega)
  have h16 := sl16 s hs
  obtain ⟨i, ei, i16, si⟩ := ls_some hfg
  obtain ⟨q, hq, sq, hq2, hqz, hqi⟩ := hI.slt g i g24 i16 si
  have hlsl : i < slN s := by
    have := (hI.pag q hq hq2).2.1
    rw [hqz, hqi, glo.1] at this
    exact this
  -- the reference
  obtain ⟨d1, w1, s1, x1⟩ := m_lv hm hI.sml hq hqz hqi g24 i16
  have hwl : ZW (lvX X g i) := hI.zw.lv i16 si g24
  have clt : clX (lvX X g i) t = s := by rw [lv_cl i16 si t24 g24, if_neg (fun c => hne c.1)]; exact tlo.1
  have flt : filX (lvX X g i) t = filX X t := by rw [lv_fil i16 si g24, if_neg hne]
  obtain ⟨i', fi, fi2, fi3⟩ := fs_some (X := lvX X g i) (s := s) (j := t) h16 (by rw [flt]; exact tlo.2)
  have i16' : i' < 16 := by omega
  have si' : slX X t i' = 0 := by rw [lv_sl i16 t24 i16' g24, if_neg (fun c => hne c.1)] at fi3; exact fi3
  obtain ⟨d2, w2, s2, x2⟩ := m_in x1 hI.sml.lv hq t24 clt hs h0 fi
  have e4 : inX (lvX X g i) q t i' 4 = X 4 := by rw [in_o (by omega) (by omega) (by omega) (by omega), lv_o (by omega) (by omega)]
  obtain ⟨d3, w3, s3, x3⟩ := m_w x2 (j := 4) (X 4 + 1) (by omega)
  -- the class
  obtain ⟨z1, v1, zr1⟩ := z_out hz hI.zw g24 (by rw [glo.1]; exact hlsl) si
  obtain ⟨z2, v2, zr2⟩ := z_put (p := q) zr1 hwl hI.sml.lv t24 clt hs h0 fi
  obtain ⟨p1, u1, a1, b1, c1⟩ := wA_e (p := p) 6 (n := 30) (nI t) hq (by decide)
  obtain ⟨p2, u2, a2, b2, c2⟩ := wA_e (p := p1) 7 (n := 30) (nI i') hq (by decide)
  obtain ⟨p3, u3, a3, b3, c3⟩ := wA_e (p := p2) 12 (n := 4) (j := 3) (p2.2 12 3 + 1) (by omega) (by decide)
  have hX := hI.mv hq hq2 hqz hqi glo.1 t24 hne tlo.1 fi2 si' tlo.2
  have hm17 : f_X9_moves d (nI s) = some d3 := by
    unfold f_X9_moves
    rw [(m_emp hm hI.sml hI.zw hs h0).1, bs, hg, (m_ful hm hI.sml hI.zw hs h0 (but := some g) (fun c hc => by cases hc; exact g24)).1, bs, ht, oI_some, oI_some, show (15 : Int32) = nI 15 from rfl, m_17 hm hI.sml g24 15 FU (by omega) (FU_ge (by omega)) ei, sq, nI_pred, w1, bs, w2, bs, show (4 : Int32) = nI 4 from rfl, m_x x2 (by omega), bs, e4, nI_1, w3, bs]
  have hb : ∀ j, j < 225 ∨ 285 ≤ j → j ≠ 4 → j < 796 ∨ 1204 ≤ j → mvX X q g i t i' j = X j := by
    intro j j1 j2 j3
    unfold mvX
    rw [vu_n j2]
    by_cases e : j = 165 + q
    · rw [e, in_p hq t24 i16' hq, if_pos rfl, hq2]
    · rw [in_o (by omega) (by omega) (by omega) e, lv_o (by omega) (by omega)]
  refine ⟨q, d3, p3, z2, mvX X q g i t i', hm17, ?_, fun k2 v2_ => ?_, (s1.tr s2).tr s3, ⟨x3, ⟨fun r hr => ?_, fun r hr w => ?_, fun r hr => ?_, fun r hr w y hy => ?_, ?_, fun j hj => ?_⟩, zr2.eq (fun j a b => ?_), hX⟩, fun hT r hr => ?_, fun j hj hj4 => hb j (by omega) hj4 (by omega), fun k => by unfold gS; rw [a3, a2, a1], ?_⟩
  · rw [z_last hz hI.zw hI.sml g24 (by omega) ei, sq]
    rfl
  · unfold b_X3_compactClass_50
    rw [p_pg hq, bs, if_neg (by decide), rA_n hq (by decide), bs, (hp.2.1 q hq hq2).2.1, hqz, rA_n hq (by decide), bs, (hp.2.1 q hq hq2).2.2, hqi, v1, bs, u1, bs, v2, bs]
    dsimp only
    rw [u2, bs, show (3 : Int32) = nI 3 from rfl, rA_n (by omega) (by decide), bs, u3, bs]
  · rw [c3 4 (by decide), c2 4 (by decide), c1 4 (by decide), hb _ (by omega) (by omega) (by omega)]; exact hp.1 r hr
  · rw [hb _ (by omega) (by omega) (by omega)] at w
    rw [c3 5 (by decide), c2 5 (by decide), c1 5 (by decide), c3 6 (by decide), c2 6 (by decide), b1, c3 7 (by decide), b2, c1 7 (by decide), hb (195 + r) (by omega) (by omega) (by omega)]
    unfold mvX
    rw [vu_n (by omega), vu_n (by omega), in_zn hq t24 i16' hr, in_st hq t24 i16' hr]
    have hh := hp.2.1 r hr w
    by_cases e : r = q
    · subst e
      rw [up_s, up_s, if_pos rfl, if_pos rfl]
      exact ⟨hh.1, rfl, rfl⟩
    · rw [up_n e, up_n e, if_neg e, if_neg e, lv_o (by omega) (by omega), lv_o (by omega) (by omega)]
      exact hh
  · rw [c3 8 (by decide), c2 8 (by decide), c1 8 (by decide), hb _ (by omega) (by omega) (by omega)]; exact hp.2.2.1 r hr
  · rw [hb _ (by omega) (by omega) (by omega)] at w
    rw [c3 9 (by decide), c2 9 (by decide), c1 9 (by decide), hb _ (by omega) (by omega) (by omega)]
    exact hp.2.2.2.1 r hr w y hy
  · rw [hb 315 (by omega) (by omega) (by omega)]
    unfold gS
    rw [a3, a2, a1]
    exact hp.2.2.2.2.1
  · have := hI.a30
    rw [hb 315 (by omega) (by omega) (by omega)] at hj
    rw [c3 10 (by decide), c2 10 (by decide), c1 10 (by decide), hb _ (by omega) (by omega) (by omega)]
    exact hp.2.2.2.2.2 j hj
  · unfold mvX inX
    rw [vu_n (by omega), vu_n (by omega), vu_n (by omega), vu_n (by omega)]
  · rw [b3, c2 12 (by decide), c1 12 (by decide)]
    by_cases e : r = 3
    · subst e
      rw [up_s, hT 3 (by omega), nI_1]
      exact congrArg nI (vu_s).symm
    · rw [up_n e, hb _ (by omega) (by omega) (by omega)]
      exact hT r hr
  · have f1 : ∀ j, j < 24 → filX (mvX X q g i t i') j = filX (inX (lvX X g i) q t i') j := fun j hj => fil_eq hj (fun k a b => vu_n (by omega))
    have e1 : Sq (mvX X q g i t i') = Sq (inX (lvX X g i) q t i') := sm_congr 24 0 (fun j _ hj => by rw [f1 j (by omega)])
    have e2 := sm_upr (f := fun j => filX (inX (lvX X g i) q t i') j * filX (inX (lvX X g i) q t i') j) (g := fun j => filX (lvX X g i) j * filX (lvX X g i) j) (i := t) 24 0 (by omega) (by omega) (fun j _ hj hjt => by
      rw [in_fil hq t24 i16' fi3 (by omega), if_neg hjt])
    have e3 := sm_upr (f := fun j => filX (lvX X g i) j * filX (lvX X g i) j) (g := fun j => filX X j * filX X j) (i := g) 24 0 (by omega) (by omega) (fun j _ hj hjg => by
      rw [lv_fil i16 si g24, if_neg hjg])
    rw [in_fil hq t24 i16' fi3 t24, if_pos rfl, flt] at e2
    rw [lv_fil i16 si g24, if_pos rfl] at e3
    have fg := fil_le X g
    have ft := fil_le X t
    have := sqd (filX X g) (by omega) (filX X t) (by omega) (by omega) (gmin t t24 tl)
    rw [e1]
    unfold Sq
    omega
theorem both_cc (hs : s < 17) (h0 : 0 < s) (k10 : Pic → Int32 → Int32 → Option (Int32 × Pic)) (v1 : Int32) : ∀ (r v m1 m2 : Nat) (d p z : Pic) (X : Nat → Nat), 480 - Sq X ≤ r → 2 * v ≤ Sq X → r < m1 → r < m2 → RR st d p z X → PT p X → ∃ d' p' z' X', L_X9_compacts_16 k10 m1 d v1 (nI s) = k10 d' v1 (nI s + gS d 3) ∧ L_X3_compactClass_2 (nI s) m2 p z (nI v) = some (p', z') ∧ SameX d d' ∧ RR st d' p' z' X' ∧ PT p' X' ∧ (∀ j, j < 165 → j ≠ 4 → X' j = X j) ∧ (∀ k, gS p' k = gS p k) := by
  intro r
  induction r using Nat.strongRecOn with
  | _ r ih =>
    intro v m1 m2 d p z X hr hv h1 h2 hR hT
    obtain ⟨m1, rfl⟩ : ∃ k, m1 = k + 1 := ⟨m1 - 1, by omega⟩
    obtain ⟨m2, rfl⟩ : ∃ k, m2 = k + 1 := ⟨m2 - 1, by omega⟩
    have hI := hR.2.2.2
    have sl := sq_le hI
    have lc : loC X s ≤ 24 := by
      have := sm_le (f := fun j => if loB X s j = true then 1 else 0) (b := 1) 24 0 (fun j _ _ => by split <;> omega)
      unfold loC
      omega
    show ∃ d' p' z' X', b_X9_compacts_16 k10 (L_X9_compacts_16 k10 m1) d v1 (nI s) = _ ∧ b_X3_compactClass_2 (nI s) (L_X3_compactClass_2 (nI s) m2) p z (nI v) = _ ∧ _
    unfold b_X9_compacts_16 b_X3_compactClass_2
    rw [m_lo hR.1 hI.sml hI.zw hs h0, bs, if_neg (show ¬ (384 : Int32) ≤ nI v from nI_ge (b := 384) (by omega) (by decide)), (z_emp hR.2.2.1 hI.zw hs).1, bs]
    have ok := (z_emp hR.2.2.1 hI.zw hs).2
    rw [(z_ful hR.2.2.1 hI.zw hs ok).1, bs]
    have stop : ∃ d' p' z' X', k10 d v1 (nI s + gS d 3) = k10 d' v1 (nI s + gS d 3) ∧ some (p, z) = some (p', z') ∧ SameX d d' ∧ RR st d' p' z' X' ∧ PT p' X' ∧ (∀ j, j < 165 → j ≠ 4 → X' j = X j) ∧ (∀ k, gS p' k = gS p k) := ⟨d, p, z, X, rfl, rfl, SameX.rf, hR, hT, fun _ _ _ => rfl, fun _ => rfl⟩
    have b49 : ∀ y : Int32, b_X3_compactClass_49 (nI s) (L_X3_compactClass_2 (nI s) m2) p z (nI v) y = some (p, z) := fun y => by
      unfold b_X3_compactClass_49 b_X3_compactClass_50
      rw [show f_X3_isPage (-1) = some 0 by decide, bs, if_pos rfl]
    by_cases hl : 1 < loC X s
    · obtain ⟨g, t, hg, ht⟩ := lo_two hl
      have g24 := (emp_sp.2 g hg).1
      have t24 := ((ful_sp (but := some g)).2 t ht).1
      rw [if_neg (show ¬ nI (loC X s) ≤ 1 from nI_ge (a := 1) hl (by omega)), hg, ht, oI_some, oI_some, if_neg (nI_pos (by omega)), if_neg (nI_pos (by omega))]
      obtain ⟨q, d1, p1, z1, X1, y1, y2, y3, y4, y5, y6, y7, y8, y9⟩ := both_mv hR hs h0 hg ht
      rw [y1, bs, y2, bs, y3, nI_1]
      have sl1 := sq_le y5.2.2.2
      obtain ⟨d2, p2, z2, X2, q1, q2, q3, q4, q5, q6, q7⟩ := ih (480 - Sq X1) (by omega) (v + 1) m1 m2 d1 p1 z1 X1 (Nat.le_refl _) (by omega) (by omega) (by omega) y5 (y6 hT)
      refine ⟨d2, p2, z2, X2, ?_, q2, y4.tr q3, q4, q5, fun j hj h4 => (q6 j hj h4).trans (y7 j hj h4), fun k => (q7 k).trans (y8 k)⟩
      rw [q1, y4.g]
    · rw [if_pos (show nI (loC X s) ≤ 1 from nI_le (b := 1) (by omega) (by decide))]
      rcases lo_one hl with hg | ⟨g, hg, hf⟩
      · rw [hg, if_pos (show oI none < 0 by decide), b49]
        exact stop
      · have g24 := (emp_sp.2 g hg).1
        rw [hg, oI_some, if_neg (nI_pos (by omega)), hf, if_pos (show oI none < 0 by decide), b49]
        exact stop
theorem hoD1 : ∀ st, st < 5 → 0 < st → ∀ s, s < 17 → 0 < s → (if s % st = 0 then hoN s st = s ∧ hoN (s + 1) st = s + st else hoN (s + 1) st = hoN s st) := by decide
theorem hoD2 : ∀ st, st < 5 → 0 < st → hoN 1 st = st ∧ 16 < hoN 17 st ∧ hoN 17 st < 100 := by decide
theorem hoD (st : Nat) (h1 : st < 5) (h2 : 0 < st) (s : Nat) (h3 : s < 17) (h4 : 0 < s) : (s % st = 0 → hoN s st = s ∧ hoN (s + 1) st = s + st) ∧ (s % st ≠ 0 → hoN (s + 1) st = hoN s st) ∧ hoN 1 st = st ∧ 16 < hoN 17 st ∧ hoN 17 st < 2 ^ 31 := by
  have a := hoD1 st h1 h2 s h3 h4
  have b := hoD2 st h1 h2
  refine ⟨fun h => ?_, fun h => ?_, b.1, b.2.1, by omega⟩
  · rw [if_pos h] at a; exact a
  · rw [if_neg h] at a; exact a
theorem no_cl (hI : IX st X) (h : s % st ≠ 0) (h0 : 0 < s) : ∀ j, j < 24 → clX X j ≠ s := by
  intro j hj e
  obtain ⟨i, -, i16, si⟩ := ls_some (hI.clz j hj (by omega))
  obtain ⟨q, hq, sq, hq2, hqz, hqi⟩ := hI.slt j i hj i16 si
  have := (hI.pag q hq hq2).2.2.2.1
  rw [hqz, e] at this
  rw [this] at h
  unfold hoN at h
  rw [Nat.mul_mod_left] at h
  exact h rfl
theorem emp_no (h : ∀ j, j < 24 → clX X j ≠ s) : empS X s = none := by
  cases e : empS X s with
  | none => rfl
  | some g =>
    obtain ⟨g24, gl, -⟩ := emp_sp.2 g e
    exact absurd (loB_t.mp gl).1 (h g g24)
theorem both_co (hst : 1 ≤ st ∧ st ≤ 4) (v1 : Int32) : ∀ (r s m1 m2 : Nat) (d p z : Pic) (X : Nat → Nat), s + r = 17 → 1 ≤ s → r < m1 → r < m2 → RR st d p z X → PT p X → gS d 3 = nI st → ∃ d' p' z' X', L_X9_compacts_10 m1 d v1 (nI (hoN s st)) = some (v1 - nI (frsX X'), d') ∧ L_X3_compactAll_10 m2 p z v1 (nI s) = some (v1 - nI (frsX X'), p', z') ∧ SameX d d' ∧ RR st d' p' z' X' ∧ PT p' X' ∧ (∀ j, j < 165 → j ≠ 4 → X' j = X j) ∧ (∀ k, gS p' k = gS p k) := by
  intro r
  induction r with
  | zero =>
    intro s m1 m2 d p z X hs h1 hm1 hm2 hR hT hd
    obtain ⟨m1, rfl⟩ : ∃ k, m1 = k + 1 := ⟨m1 - 1, by omega⟩
    obtain ⟨m2, rfl⟩ : ∃ k, m2 = k + 1 := ⟨m2 - 1, by omega⟩
    have : s = 17 := by omega
    subst this
    have hh := hoD st (by omega) (by omega) 1 (by omega) (by omega)
    refine ⟨d, p, z, X, ?_, ?_, SameX.rf, hR, hT, fun _ _ _ => rfl, fun _ => rfl⟩
    · show b_X9_compacts_10 _ d v1 (nI (hoN 17 st)) = _
      unfold b_X9_compacts_10
      rw [if_pos (show (16 : Int32) < nI (hoN 17 st) from nI_lt (a := 16) hh.2.2.2.1 hh.2.2.2.2), m_fnow hR.1 hR.2.2.2.zw, bs]
    · show b_X3_compactAll_10 _ p z v1 (nI 17) = _
      unfold b_X3_compactAll_10
      rw [if_pos (by decide), show gS z 0 = nI (frsX X) from hR.2.2.1.1]
  | succ r ih =>
    intro s m1 m2 d p z X hs h1 hm1 hm2 hR hT hd
    obtain ⟨m1, rfl⟩ : ∃ k, m1 = k + 1 := ⟨m1 - 1, by omega⟩
    obtain ⟨m2, rfl⟩ : ∃ k, m2 = k + 1 := ⟨m2 - 1, by omega⟩
    have hI := hR.2.2.2
    have hh := hoD st (by omega) (by omega) s (by omega) (by omega)
    have sl := sq_le hI
    by_cases e : s % st = 0
    · have hh1 := hh.1 e
      show ∃ d' p' z' X', b_X9_compacts_10 (L_X9_compacts_10 m1) d v1 (nI (hoN s st)) = _ ∧ b_X3_compactAll_10 (L_X3_compactAll_10 m2) p z v1 (nI s) = _ ∧ _
      unfold b_X9_compacts_10 b_X3_compactAll_10 f_X3_compactClass
      rw [hh1.1, if_neg (show ¬ (16 : Int32) < nI s from nI_nlt (b := s) (a := 16) (by omega) (by decide)), if_neg (show ¬ (16 : Int32) < nI s from nI_nlt (b := s) (a := 16) (by omega) (by decide))]
      obtain ⟨d1, p1, z1, X1, y1, y2, y3, y4, y5, y6, y7⟩ := both_cc (st := st) (s := s) (by omega) (by omega) (L_X9_compacts_10 m1) v1 480 0 FU FU d p z X (by omega) (by omega) (FU_ge (by omega)) (FU_ge (by omega)) hR hT
      rw [y1, show (0 : Int32) = nI 0 from rfl, y2, bs, hd, nI_add, ← hh1.2, nI_1]
      obtain ⟨d2, p2, z2, X2, q1, q2, q3, q4, q5, q6, q7⟩ := ih (s + 1) m1 m2 d1 p1 z1 X1 (by omega) (by omega) (by omega) (by omega) y4 y5 (by rw [y3.g]; exact hd)
      exact ⟨d2, p2, z2, X2, q1, q2, y3.tr q3, q4, q5, fun j hj h4 => (q6 j hj h4).trans (y6 j hj h4), fun k => (q7 k).trans (y7 k)⟩
    · have hh2 := hh.2.1 e
      have en := emp_no (no_cl hI e (by omega))
      rw [← hh2]
      show ∃ d' p' z' X', _ ∧ b_X3_compactAll_10 (L_X3_compactAll_10 m2) p z v1 (nI s) = _ ∧ _
      unfold b_X3_compactAll_10 f_X3_compactClass
      have e2 : L_X3_compactClass_2 (nI s) FU p z 0 = some (p, z) := by
        show b_X3_compactClass_2 (nI s) _ p z (nI 0) = _
        unfold b_X3_compactClass_2
        have ok := (z_emp hR.2.2.1 hI.zw (show s < 17 by omega)).2
        rw [if_neg (show ¬ (384 : Int32) ≤ nI 0 by decide), (z_emp hR.2.2.1 hI.zw (by omega)).1, bs, (z_ful hR.2.2.1 hI.zw (by omega) ok).1, bs, en, if_pos (show oI none < 0 by decide)]
        unfold b_X3_compactClass_49 b_X3_compactClass_50
        rw [show f_X3_isPage (-1) = some 0 by decide, bs, if_pos rfl]
      rw [if_neg (show ¬ (16 : Int32) < nI s from nI_nlt (b := s) (a := 16) (by omega) (by decide)), e2, bs, nI_1]
      exact ih (s + 1) (m1 + 1) m2 d p z X (by omega) (by omega) (by omega) (by omega) hR hT hd
/-- compacting, on both sides -/
theorem both_cp (hst : 1 ≤ st ∧ st ≤ 4) (hR : RR st d p z X) (hT : PT p X) (hd : gS d 3 = nI st) : ∃ w d' p' z' X', f_X9_compacts d = some (w, d') ∧ f_X3_compactAll p z = some (w, p', z') ∧ SameX d d' ∧ RR st d' p' z' X' ∧ PT p' X' ∧ (∀ j, j < 165 → j ≠ 4 → X' j = X j) ∧ (∀ k, gS p' k = gS p k) := by
  unfold f_X9_compacts f_X3_compactAll
  have hh := hoD st (by omega) (by omega) 1 (by omega) (by omega)
  obtain ⟨d2, p2, z2, X2, q1, q2, q3⟩ := both_co hst (nI (frsX X)) 16 1 FU FU d p z X (by omega) (by omega) (FU_ge (by omega)) (FU_ge (by omega)) hR hT hd
  rw [m_fnow hR.1 hR.2.2.2.zw, bs, hd, show gS z 0 = nI (frsX X) from hR.2.2.1.1, show (1 : Int32) = nI 1 from rfl]
  rw [hh.2.2.1] at q1
  exact ⟨_, d2, p2, z2, X2, q1, q2, q3⟩
end CO
