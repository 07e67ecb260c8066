/-! (B) loading, moving: what always holds stays -/
section LM
variable {X : Nat → Nat} {q z i z' i' f st : Nat}
theorem IX.eqa {Y : Nat → Nat} (h : IX st X) (hs : Sml Y) (e0 : Y 0 ≤ 24) (e1 : ∀ j, 225 ≤ j → j < 285 → Y j = X j) (e2 : ∀ j, 796 ≤ j → j < 1204 → Y j = X j) (e3 : ∀ p, p < 30 → (Y (165 + p) = 2 ↔ X (165 + p) = 2)) (e4 : ∀ p, p < 30 → X (165 + p) = 2 → Y (195 + p) = X (195 + p)) (e5 : ∀ p, p < 30 → Y (1204 + p) ≤ 1 ∧ (Y (1204 + p) = 1 → X (165 + p) = 2)) (en : Y 315 = X 315) (ha : AGE Y) : IX st Y := by
  have ec : ∀ q, q < 24 → clX Y q = clX X q := fun q hq => e2 _ (by omega) (by omega)
  have es : ∀ q k, q < 24 → k < 16 → slX Y q k = slX X q k := fun q k hq hk => e2 _ (by omega) (by omega)
  have ef : ∀ q, q < 24 → filX Y q = filX X q := fun q hq => fil_eq hq e2
  refine ⟨⟨hs, fun q hq => by rw [ec q hq, ef q hq]; exact h.zw q hq, e0, by rw [frs_eq e2]; exact h.fr⟩, ⟨?_, ?_⟩, ha, fun q hq hq2 => ?_, fun q k hq hk hne => ?_, fun q hq hne => ?_, fun q hq => ?_⟩
  · rw [en, h.nag]
    unfold cntP
    refine sm_congr 30 0 (fun q _ hq => ?_)
    by_cases g : X (165 + q) = 2
    · rw [if_pos g, if_pos ((e3 q (by omega)).mpr g)]
    · rw [if_neg g, if_neg (fun t => g ((e3 q (by omega)).mp t))]
  · rw [en, ← h.tot]
    exact sm_congr 24 0 (fun q _ hq => ef q (by omega))
  · have hx := (e3 q hq).mp hq2
    obtain ⟨t1, t2, t3, t4, t5, t6⟩ := h.pag q hq hx
    have := sl16 _ (h.zw _ t1).1
    rw [e1 _ (by omega) (by omega), e1 (255 + q) (by omega) (by omega), e4 q hq hx, ec _ t1, es _ _ t1 (by omega)]
    exact ⟨t1, t2, t3, t4, t5, t6⟩
  · rw [es q k hq hk] at hne ⊢
    obtain ⟨q', q1, q2, q3, q4, q5⟩ := h.slt q k hq hk hne
    exact ⟨q', q1, q2, (e3 _ q1).mpr q3, by rw [e1 _ (by omega) (by omega)]; exact q4, by rw [e1 _ (by omega) (by omega)]; exact q5⟩
  · rw [ec q hq] at hne
    rw [ef q hq]
    exact h.clz q hq hne
  · exact ⟨(e5 q hq).1, fun t => (e3 q hq).mpr ((e5 q hq).2 t)⟩
theorem ld_o (hf : f < X 315) (hn : X 315 ≤ 30) {j : Nat} (h : j < 285 ∨ 316 ≤ j) : gwX (fgX X f) q j = X j := by
  unfold gwX
  rw [fg_n, vu_n (by omega), vu_n (by omega), fg_o (by omega) hn h]
theorem ld_n (hf : f < X 315) : gwX (fgX X f) q 315 = X 315 := by
  unfold gwX
  rw [vu_s, fg_n]
  omega
theorem ld_a (hf : f < X 315) (hn : X 315 ≤ 30) {k : Nat} (hk : k < X 315) : gwX (fgX X f) q (285 + k) = if k = X 315 - 1 then q else X (285 + sh f k) := by
  unfold gwX
  rw [fg_n, vu_n (by omega)]
  by_cases e : k = X 315 - 1
  · rw [if_pos e, e, vu_s]
  · rw [if_neg e, vu_n (by omega), fg_a (by omega) hn]
theorem IX.ld (h : IX st X) (hq : q < 30) (hq2 : X (165 + q) = 2) (hf : f < X 315) (hfq : X (285 + f) = q) : IX st (gwX (fgX X f) q) := by
  have hn := h.a30
  have vo := fun {j : Nat} => ld_o (X := X) (q := q) hf hn (j := j)
  have va := fun {k : Nat} => ld_a (X := X) (q := q) hf hn (k := k)
  have vn := ld_n (X := X) (q := q) hf
  have vm : Sml (gwX (fgX X f) q) := by
    have a := h.sml.fg (f := f)
    unfold gwX
    refine Sml.up (Sml.up a (by omega)) ?_
    rw [fg_n]
    omega
  generalize gwX (fgX X f) q = Y at *
  refine h.eqa vm (by rw [vo (by omega)]; exact h.li) (fun j a b => vo (by omega)) (fun j a b => vo (by omega)) (fun p hp => by rw [vo (by omega)]) (fun p hp _ => vo (by omega)) (fun p hp => by rw [vo (by omega)]; exact h.hld p hp) vn ⟨fun k hk => ?_, fun k l hk hl e => ?_, fun r hr hr2 => ?_⟩
  · rw [vn] at hk
    rw [va hk]
    by_cases e : k = X 315 - 1
    · rw [if_pos e, vo (by omega)]; exact ⟨hq, hq2⟩
    · rw [if_neg e]
      obtain ⟨a1, a2⟩ := h.age.1 _ (sh_in (f := f) (by omega : k < X 315 - 1))
      rw [vo (by omega)]
      exact ⟨a1, a2⟩
  · rw [vn] at hk hl
    rw [va hk, va hl] at e
    by_cases e1 : k = X 315 - 1
    · by_cases e2 : l = X 315 - 1
      · omega
      · rw [if_pos e1, if_neg e2] at e
        exact absurd (h.age.2.1 _ _ hf (sh_in (f := f) (by omega : l < X 315 - 1)) (hfq.trans e)) (fun c => sh_ne c.symm)
    · by_cases e2 : l = X 315 - 1
      · rw [if_neg e1, if_pos e2] at e
        exact absurd (h.age.2.1 _ _ (sh_in (f := f) (by omega : k < X 315 - 1)) hf (e.trans hfq.symm)) sh_ne
      · rw [if_neg e1, if_neg e2] at e
        exact sh_inj (h.age.2.1 _ _ (sh_in (f := f) (by omega)) (sh_in (f := f) (by omega)) e)
  · rw [vo (by omega)] at hr2
    by_cases e : r = q
    · exact ⟨X 315 - 1, by omega, by rw [va (by omega), if_pos rfl, e]⟩
    · obtain ⟨k, k1, k2⟩ := h.age.2.2 r hr hr2
      obtain ⟨l, l1, l2⟩ := sh_sur (k := k) (f := f) (fun c => e (by rw [← k2, c, hfq])) k1 hf
      exact ⟨l, by omega, by rw [va (by omega), if_neg (by omega), l2, k2]⟩
def mvX (X : Nat → Nat) (q z i z' i' : Nat) : Nat → Nat := va_up (inX (lvX X z i) q z' i') 4 (X 4 + 1)
theorem IX.mv {s : Nat} (h : IX st X) (hq : q < 30) (hq2 : X (165 + q) = 2) (hz : X (225 + q) = z) (hi : X (255 + q) = i) (hc : clX X z = s) (hz' : z' < 24) (hne : z' ≠ z) (hc' : clX X z' = s) (hi' : i' < slN s) (h0 : slX X z' i' = 0) (hf : filX X z' < slN s) : IX st (mvX X q z i z' i') := by
  obtain ⟨g1, g2, g3, g4, g5, g6⟩ := h.pag q hq hq2
  rw [hz] at g1 g2 g3 g4
  rw [hi] at g2 g3
  have hn := h.a30
  have hs17 := (h.zw z g1).1
  rw [hc] at hs17 g2
  have h16 := sl16 s hs17
  have hi16 : i < 16 := by omega
  have hi16' : i' < 16 := by omega
  have hsl : slX X z i ≠ 0 := by omega
  have hl0 : slX (lvX X z i) z' i' = 0 := by rw [lv_sl hi16 hz' hi16' g1, if_neg (fun c => hne c.1)]; exact h0
  have vo : ∀ j, j ≠ 4 → j ≠ 225 + q → j ≠ 255 + q → j ≠ 165 + q → (j < 796 ∨ 1204 ≤ j) → mvX X q z i z' i' j = X j := by
    intro j a1 a2 a3 a4 a5
    unfold mvX
    rw [vu_n a1, in_o (by omega) a2 a3 a4, lv_o (by omega) (by omega)]
  have vp : ∀ r, r < 30 → mvX X q z i z' i' (165 + r) = X (165 + r) := by
    intro r hr
    unfold mvX
    rw [vu_n (by omega), in_p hq hz' hi16' hr, lv_o (by omega) (by omega)]
    by_cases e : r = q
    · subst e; rw [if_pos rfl, hq2]
    · rw [if_neg e]
  have vzn : ∀ r, r < 30 → mvX X q z i z' i' (225 + r) = if r = q then z' else X (225 + r) := by
    intro r hr
    unfold mvX
    rw [vu_n (by omega), in_zn hq hz' hi16' hr, lv_o (by omega) (by omega)]
  have vst : ∀ r, r < 30 → mvX X q z i z' i' (255 + r) = if r = q then i' else X (255 + r) := by
    intro r hr
    unfold mvX
    rw [vu_n (by omega), in_st hq hz' hi16' hr, lv_o (by omega) (by omega)]
  have vw : ∀ j, 796 ≤ j → mvX X q z i z' i' j = inX (lvX X z i) q z' i' j := fun j hj => vu_n (by omega)
  have vc : ∀ r, r < 24 → clX (mvX X q z i z' i') r = if r = z ∧ filX X z = 1 then 0 else clX X r := by
    intro r hr
    rw [← lv_cl (X := X) hi16 hsl hr g1, ← in_cl (Y := lvX X z i) hq hz' hi16' hr]
    exact vw _ (by omega)
  have vs : ∀ r k, r < 24 → k < 16 → slX (mvX X q z i z' i') r k = if r = z' ∧ k = i' then q + 1 else if r = z ∧ k = i then 0 else slX X r k := by
    intro r k hr hk
    rw [← lv_sl (X := X) hi16 hr hk g1, ← in_sl (Y := lvX X z i) hq hz' hi16' hr hk]
    exact vw _ (by omega)
  have vf : ∀ r, r < 24 → filX (mvX X q z i z' i') r = if r = z' then filX X z' + 1 else if r = z then filX X z - 1 else filX X r := by
    intro r hr
    have e : filX (mvX X q z i z' i') r = filX (inX (lvX X z i) q z' i') r := fil_eq hr (fun j a b => vw j a)
    rw [e, in_fil hq hz' hi16' hl0 hr, lv_fil hi16 hsl g1, lv_fil hi16 hsl g1, if_neg hne]
  have vfr : frsX (mvX X q z i z' i') ≤ 24 := by
    have := frs_lv (X := X) hi16 hsl g1
    have e : frsX (mvX X q z i z' i') = frsX (lvX X z i) := by
      unfold frsX
      exact sm_congr 24 0 (fun r _ hr => by rw [vc r (by omega), lv_cl (X := X) hi16 hsl (by omega) g1])
    have := h.fr
    omega
  have vm : Sml (mvX X q z i z' i') := by
    unfold mvX inX
    refine Sml.upt (Sml.up (Sml.up (Sml.up (Sml.up h.sml.lv ?_) ?_) ?_) ?_) (by omega) <;> omega
  have filpos : 0 < filX X z := fil_pos hi16 hsl
  have hfz := (h.zw z g1).2
  generalize mvX X q z i z' i' = Y at *
  have en : Y 315 = X 315 := vo _ (by omega) (by omega) (by omega) (by omega) (by omega)
  have ea : ∀ k, k < 30 → Y (285 + k) = X (285 + k) := fun k hk => vo _ (by omega) (by omega) (by omega) (by omega) (by omega)
  refine ⟨⟨vm, fun r hr => ?_, by rw [vo 0 (by omega) (by omega) (by omega) (by omega) (by omega)]; exact h.li, vfr⟩, ⟨?_, ?_⟩, ⟨fun k hk => ?_, fun k l hk hl e => ?_, fun r hr hr2 => ?_⟩, fun r hr hr2 => ?_, fun r k hr hk hn0 => ?_, fun r hr hn0 => ?_, fun r hr => ?_⟩
  · rw [vc r hr, vf r hr]
    have w1 := h.zw r hr
    by_cases e : r = z'
    · subst e
      rw [if_pos rfl, if_neg (fun c => hne c.1), hc']
      exact ⟨hs17, by omega⟩
    · rw [if_neg e]
      by_cases e2 : r = z
      · subst e2
        rw [if_pos rfl]
        by_cases e3 : filX X r = 1
        · rw [if_pos ⟨rfl, e3⟩]; exact ⟨by omega, by omega⟩
        · rw [if_neg (fun t => e3 t.2)]; exact ⟨w1.1, by omega⟩
      · rw [if_neg (fun t => e2 t.1), if_neg e2]; exact w1
  · rw [en, h.nag]
    unfold cntP
    exact sm_congr 30 0 (fun r _ hr => by rw [vp r (by omega)])
  · have := h.tot
    have u := sm_upr (f := fun r => if r = z then filX X z - 1 else filX X r) (g := filX X) (i := z) 24 0 (by omega) (by omega) (fun r _ hr hne => by rw [if_neg hne])
    rw [if_pos rfl] at u
    have u2 := sm_upr (f := filX Y) (g := fun r => if r = z then filX X z - 1 else filX X r) (i := z') 24 0 (by omega) (by omega) (fun r _ hr hne => by rw [vf r (by omega), if_neg hne])
    rw [vf z' hz', if_pos rfl, if_neg hne] at u2
    omega
  · rw [en] at hk
    rw [ea k (by omega)]
    obtain ⟨a1, a2⟩ := h.age.1 k hk
    exact ⟨a1, by rw [vp _ a1]; exact a2⟩
  · rw [en] at hk hl
    rw [ea k (by omega), ea l (by omega)] at e
    exact h.age.2.1 k l hk hl e
  · rw [vp r hr] at hr2
    obtain ⟨k, k1, k2⟩ := h.age.2.2 r hr hr2
    exact ⟨k, by omega, by rw [ea k (by omega)]; exact k2⟩
  · rw [vp r hr] at hr2
    by_cases e : r = q
    · subst e
      rw [vzn r hr, vst r hr, if_pos rfl, if_pos rfl, vc z' hz', if_neg (fun c => hne c.1), hc', vs z' i' hz' hi16', if_pos ⟨rfl, rfl⟩, vo (195 + r) (by omega) (by omega) (by omega) (by omega) (by omega)]
      exact ⟨hz', hi', rfl, hc.symm.trans g4, g5, g6⟩
    · obtain ⟨t1, t2, t3, t4, t5, t6⟩ := h.pag r hr hr2
      have hs2 := sl16 _ (h.zw _ t1).1
      have n1 : ¬ (X (225 + r) = z ∧ X (255 + r) = i) := fun c => by
        rw [c.1, c.2] at t3; omega
      have n2 : ¬ (X (225 + r) = z' ∧ X (255 + r) = i') := fun c => by
        rw [c.1, c.2] at t3; omega
      have hcl : clX Y (X (225 + r)) = clX X (X (225 + r)) := by
        rw [vc _ t1]
        refine if_neg (fun e => ?_)
        have t3' : slX X z (X (255 + r)) ≠ 0 := by rw [← e.1, t3]; omega
        exact fil_two hi16 (by omega) hsl t3' (fun c => n1 ⟨e.1, c⟩) e.2
      rw [vzn r hr, vst r hr, if_neg e, if_neg e, hcl, vs _ _ t1 (by omega), if_neg n2, if_neg n1, vo (195 + r) (by omega) (by omega) (by omega) (by omega) (by omega)]
      exact ⟨t1, t2, t3, t4, t5, t6⟩
  · rw [vs r k hr hk] at hn0 ⊢
    by_cases e : r = z' ∧ k = i'
    · rw [if_pos e]
      exact ⟨q, hq, rfl, by rw [vp q hq]; exact hq2, by rw [vzn q hq, if_pos rfl, e.1], by rw [vst q hq, if_pos rfl, e.2]⟩
    · rw [if_neg e] at hn0 ⊢
      by_cases e2 : r = z ∧ k = i
      · rw [if_pos e2] at hn0; exact absurd rfl hn0
      · rw [if_neg e2] at hn0 ⊢
        obtain ⟨q', e1, e2', e3, e4, e5⟩ := h.slt r k hr hk hn0
        have hne' : q' ≠ q := fun c => e2 (by subst c; exact ⟨e4.symm.trans hz, e5.symm.trans hi⟩)
        exact ⟨q', e1, e2', by rw [vp _ e1]; exact e3, by rw [vzn _ e1, if_neg hne']; exact e4, by rw [vst _ e1, if_neg hne']; exact e5⟩
  · rw [vf r hr]
    rw [vc r hr] at hn0
    by_cases e : r = z'
    · rw [if_pos e]; omega
    · rw [if_neg e]
      by_cases e2 : r = z
      · subst e2
        rw [if_pos rfl]
        by_cases e3 : filX X r = 1
        · rw [if_pos ⟨rfl, e3⟩] at hn0; exact absurd rfl hn0
        · omega
      · rw [if_neg e2]
        rw [if_neg (fun t => e2 t.1)] at hn0
        exact h.clz r hr hn0
  · rw [vo (1204 + r) (by omega) (by omega) (by omega) (by omega) (by omega), vp r hr]
    exact h.hld r hr
end LM
