/-! (B) a page enters the pool; it is loaded; it moves -/
def gwX (X : Nat → Nat) (q : Nat) : Nat → Nat := va_up (va_up X (285 + X 315) q) 315 (X 315 + 1)
def eX (X : Nat → Nat) (q z i s : Nat) : Nat → Nat := gwX (inX (va_up X (796 + z) s) q z i) q
section EN
variable {X : Nat → Nat} {q z i s f : Nat}
theorem in_o {j : Nat} (h1 : j ≠ 820 + 16 * z + i) (h2 : j ≠ 225 + q) (h3 : j ≠ 255 + q) (h4 : j ≠ 165 + q) : inX X q z i j = X j := by
  unfold inX
  rw [vu_n h4, vu_n h3, vu_n h2, vu_n h1]
theorem eX_o (hq : q < 30) (hz : z < 24) (hi : i < 16) (hn : X 315 < 30) {j : Nat} (h : j < 165 ∨ (195 ≤ j ∧ j < 225) ∨ (316 ≤ j ∧ j < 796) ∨ 1204 ≤ j) : eX X q z i s j = X j := by
  unfold eX gwX
  have e : inX (va_up X (796 + z) s) q z i 315 = X 315 := by rw [in_o (by omega) (by omega) (by omega) (by omega), vu_n (by omega)]
  rw [e, vu_n (by omega), vu_n (by omega), in_o (by omega) (by omega) (by omega) (by omega), vu_n (by omega)]
theorem eX_n (hq : q < 30) (hz : z < 24) (hi : i < 16) : eX X q z i s 315 = X 315 + 1 := by
  unfold eX gwX
  have e : inX (va_up X (796 + z) s) q z i 315 = X 315 := by rw [in_o (by omega) (by omega) (by omega) (by omega), vu_n (by omega)]
  rw [e, vu_s]
theorem eX_a (hq : q < 30) (hz : z < 24) (hi : i < 16) (hn : X 315 < 30) {k : Nat} (hk : k < X 315 + 1) : eX X q z i s (285 + k) = if k = X 315 then q else X (285 + k) := by
  unfold eX gwX
  have e : inX (va_up X (796 + z) s) q z i 315 = X 315 := by rw [in_o (by omega) (by omega) (by omega) (by omega), vu_n (by omega)]
  rw [e, vu_n (by omega)]
  by_cases g : k = X 315
  · rw [if_pos g, g, vu_s]
  · rw [if_neg g, vu_n (by omega), in_o (by omega) (by omega) (by omega) (by omega), vu_n (by omega)]
theorem eX_m (hq : q < 30) (hz : z < 24) (hi : i < 16) (hn : X 315 < 30) {j : Nat} (h : j < 285 ∨ 316 ≤ j) : eX X q z i s j = inX (va_up X (796 + z) s) q z i j := by
  unfold eX gwX
  have e : inX (va_up X (796 + z) s) q z i 315 = X 315 := by rw [in_o (by omega) (by omega) (by omega) (by omega), vu_n (by omega)]
  rw [e, vu_n (by omega), vu_n (by omega)]
theorem in_p {Y : Nat → Nat} (hq : q < 30) (hz : z < 24) (hi : i < 16) {r : Nat} (hr : r < 30) : inX Y q z i (165 + r) = if r = q then 2 else Y (165 + r) := by
  by_cases g : r = q
  · subst g; rw [if_pos rfl]; exact vu_s
  · rw [if_neg g, in_o (by omega) (by omega) (by omega) (by omega)]
theorem in_zn {Y : Nat → Nat} (hq : q < 30) (hz : z < 24) (hi : i < 16) {r : Nat} (hr : r < 30) : inX Y q z i (225 + r) = if r = q then z else Y (225 + r) := by
  by_cases g : r = q
  · subst g; rw [if_pos rfl]; unfold inX; rw [vu_n (by omega), vu_n (by omega), vu_s]
  · rw [if_neg g, in_o (by omega) (by omega) (by omega) (by omega)]
theorem in_st {Y : Nat → Nat} (hq : q < 30) (hz : z < 24) (hi : i < 16) {r : Nat} (hr : r < 30) : inX Y q z i (255 + r) = if r = q then i else Y (255 + r) := by
  by_cases g : r = q
  · subst g; rw [if_pos rfl]; unfold inX; rw [vu_n (by omega), vu_s]
  · rw [if_neg g, in_o (by omega) (by omega) (by omega) (by omega)]
theorem in_sl {Y : Nat → Nat} (hq : q < 30) (hz : z < 24) (hi : i < 16) {r k : Nat} (hr : r < 24) (hk : k < 16) : slX (inX Y q z i) r k = if r = z ∧ k = i then q + 1 else slX Y r k := by
  by_cases g : r = z ∧ k = i
  · obtain ⟨g1, g2⟩ := g
    subst g1; subst g2
    rw [if_pos ⟨rfl, rfl⟩]
    show inX Y q r k (820 + 16 * r + k) = _
    unfold inX
    rw [vu_n (by omega), vu_n (by omega), vu_n (by omega), vu_s]
  · rw [if_neg g]
    show inX Y q z i (820 + 16 * r + k) = _
    rw [in_o (by omega) (by omega) (by omega) (by omega)]
    rfl
theorem in_cl {Y : Nat → Nat} (hq : q < 30) (hz : z < 24) (hi : i < 16) {r : Nat} (hr : r < 24) : clX (inX Y q z i) r = clX Y r := by
  show inX Y q z i (796 + r) = _
  rw [in_o (by omega) (by omega) (by omega) (by omega)]
  rfl
theorem in_fil {Y : Nat → Nat} (hq : q < 30) (hz : z < 24) (hi : i < 16) (hs : slX Y z i = 0) {r : Nat} (hr : r < 24) : filX (inX Y q z i) r = if r = z then filX Y z + 1 else filX Y r := by
  have e : filX (inX Y q z i) r = filX (va_up Y (820 + 16 * z + i) (q + 1)) r := fil_eq hr (fun j a b => by
    unfold inX
    rw [vu_n (by omega), vu_n (by omega), vu_n (by omega)])
  rw [e]
  by_cases g : r = z
  · subst g
    rw [if_pos rfl]
    have := fil_ups (X := Y) (v := q + 1) (j := r) (k := i) hi
    rw [if_pos hs, if_neg (by omega)] at this
    omega
  · rw [if_neg g, fil_up (fun k hk => by omega)]
theorem IX.p29 {st : Nat} (h : IX st X) (hq : q < 30) (hq2 : X (165 + q) ≠ 2) : X 315 ≤ 29 := by
  rw [h.nag]
  unfold cntP
  have u := sm_upr (f := fun p => if X (165 + p) = 2 then 1 else 0) (g := fun p => if p = q then 1 else if X (165 + p) = 2 then 1 else 0) (i := q) 30 0 (by omega) (by omega) (fun p _ _ hne => by
    rw [if_neg hne])
  rw [if_pos rfl, if_neg hq2] at u
  have := sm_le (f := fun p => if p = q then 1 else if X (165 + p) = 2 then 1 else 0) (b := 1) 30 0 (fun j _ _ => by split; omega; split <;> omega)
  omega
theorem IX.en {st : Nat} (h : IX st X) (hq : q < 30) (hq2 : X (165 + q) ≠ 2) (hz : z < 24) (hs : s < 17) (hi : i < slN s) (h0 : slX X z i = 0) (hf : filX X z < slN s) (hc : clX X z = s ∨ (clX X z = 0 ∧ frsX X + frN s ≤ 24)) (he : s = hoN (X (195 + q)) st) (hs1 : 3 ≤ X (195 + q)) (hs2 : X (195 + q) ≤ 15) : IX st (eX X q z i s) := by
  have hn : X 315 < 30 := by have := h.p29 hq hq2; omega
  have h16 := sl16 s hs
  have hi16 : i < 16 := by omega
  have vo := fun {j : Nat} => eX_o (X := X) (s := s) hq hz hi16 hn (j := j)
  have va := fun {k : Nat} => eX_a (X := X) (s := s) hq hz hi16 hn (k := k)
  have vn := eX_n (X := X) (s := s) hq hz hi16
  have vp : ∀ r, r < 30 → eX X q z i s (165 + r) = if r = q then 2 else X (165 + r) := by
    intro r hr
    rw [eX_m hq hz hi16 hn (by omega), in_p hq hz hi16 hr, vu_n (by omega)]
  have vzn : ∀ r, r < 30 → eX X q z i s (225 + r) = if r = q then z else X (225 + r) := by
    intro r hr
    rw [eX_m hq hz hi16 hn (by omega), in_zn hq hz hi16 hr, vu_n (by omega)]
  have vst : ∀ r, r < 30 → eX X q z i s (255 + r) = if r = q then i else X (255 + r) := by
    intro r hr
    rw [eX_m hq hz hi16 hn (by omega), in_st hq hz hi16 hr, vu_n (by omega)]
  have vc : ∀ r, r < 24 → clX (eX X q z i s) r = if r = z then s else clX X r := by
    intro r hr
    have : clX (eX X q z i s) r = clX (va_up X (796 + z) s) r := by
      rw [← in_cl (Y := va_up X (796 + z) s) hq hz hi16 hr]
      exact eX_m hq hz hi16 hn (by omega)
    rw [this]
    by_cases g : r = z
    · subst g; rw [if_pos rfl, cl_ups]
    · rw [if_neg g, cl_up (by omega)]
  have vs : ∀ r k, r < 24 → k < 16 → slX (eX X q z i s) r k = if r = z ∧ k = i then q + 1 else slX X r k := by
    intro r k hr hk
    have : slX (eX X q z i s) r k = slX (inX (va_up X (796 + z) s) q z i) r k := eX_m hq hz hi16 hn (by omega)
    rw [this, in_sl hq hz hi16 hr hk, sl_up (by omega)]
  have vf : ∀ r, r < 24 → filX (eX X q z i s) r = if r = z then filX X z + 1 else filX X r := by
    intro r hr
    have : filX (eX X q z i s) r = filX (inX (va_up X (796 + z) s) q z i) r := fil_eq hr (fun j a b => eX_m hq hz hi16 hn (by omega))
    rw [this, in_fil hq hz hi16 (by rw [sl_up (by omega)]; exact h0) hr, fil_up (fun k hk => by omega), fil_up (fun k hk => by omega)]
  have vfr : frsX (eX X q z i s) ≤ 24 := by
    have e : frsX (eX X q z i s) = frsX (va_up X (796 + z) s) := by
      unfold frsX
      refine sm_congr 24 0 (fun r _ hr => ?_)
      rw [vc r (by omega)]
      by_cases g : r = z
      · subst g; rw [if_pos rfl, cl_ups]
      · rw [if_neg g, cl_up (by omega)]
    have u := frs_ups (X := X) (v := s) hz
    have := h.fr
    rcases hc with c | ⟨c, c'⟩
    · rw [c] at u; omega
    · rw [c, fr_0.1] at u; omega
  have vm : Sml (eX X q z i s) := by
    unfold eX gwX inX
    have a := h.sml
    refine Sml.up (Sml.up (Sml.up (Sml.up (Sml.up (Sml.up (Sml.up a ?_) ?_) ?_) ?_) ?_) ?_) ?_ <;> try omega
    rw [vu_n (by omega), vu_n (by omega), vu_n (by omega), vu_n (by omega), vu_n (by omega)]
    omega
  generalize eX X q z i s = Y at *
  have w := h.zw
  refine ⟨⟨vm, fun r hr => ?_, by rw [vo (by omega)]; exact h.li, vfr⟩, ⟨?_, ?_⟩, ⟨fun k hk => ?_, fun k l hk hl e => ?_, fun r hr hr2 => ?_⟩, fun r hr hr2 => ?_, fun r k hr hk hne => ?_, fun r hr hne => ?_, fun r hr => ?_⟩
  · rw [vc r hr, vf r hr]
    by_cases e : r = z
    · rw [if_pos e, if_pos e]; exact ⟨hs, by omega⟩
    · rw [if_neg e, if_neg e]; exact w r hr
  · have := h.nag
    unfold cntP at this ⊢
    have u := sm_upr (f := fun r => if Y (165 + r) = 2 then 1 else 0) (g := fun r => if X (165 + r) = 2 then 1 else 0) (i := q) 30 0 (by omega) (by omega) (fun r _ hr hne => by
      rw [vp r (by omega), if_neg hne])
    rw [if_neg hq2, vp q hq, if_pos rfl, if_pos rfl] at u
    omega
  · have := h.tot
    have u := sm_upr (f := filX Y) (g := filX X) (i := z) 24 0 (by omega) (by omega) (fun r _ hr hne => by
      rw [vf r (by omega), if_neg hne])
    rw [vf z hz, if_pos rfl] at u
    omega
  · rw [vn] at hk
    rw [va hk]
    by_cases e : k = X 315
    · rw [if_pos e]; exact ⟨hq, by rw [vp q hq, if_pos rfl]⟩
    · rw [if_neg e]
      obtain ⟨a1, a2⟩ := h.age.1 k (by omega)
      refine ⟨a1, ?_⟩
      rw [vp _ a1, if_neg (fun c => hq2 (by rw [← c]; exact a2))]
      exact a2
  · rw [vn] at hk hl
    rw [va hk, va hl] at e
    by_cases e1 : k = X 315
    · by_cases e2 : l = X 315
      · omega
      · rw [if_pos e1, if_neg e2] at e
        obtain ⟨a1, a2⟩ := h.age.1 l (by omega)
        rw [← e] at a2
        exact absurd a2 hq2
    · by_cases e2 : l = X 315
      · rw [if_neg e1, if_pos e2] at e
        obtain ⟨a1, a2⟩ := h.age.1 k (by omega)
        rw [e] at a2
        exact absurd a2 hq2
      · rw [if_neg e1, if_neg e2] at e
        exact h.age.2.1 k l (by omega) (by omega) e
  · rw [vp r hr] at hr2
    by_cases e : r = q
    · exact ⟨X 315, by omega, by rw [va (by omega), if_pos rfl, e]⟩
    · rw [if_neg e] at hr2
      obtain ⟨k, k1, k2⟩ := h.age.2.2 r hr hr2
      exact ⟨k, by omega, by rw [va (by omega), if_neg (by omega)]; exact k2⟩
  · rw [vp r hr] at hr2
    by_cases e : r = q
    · subst e
      rw [vzn r hr, vst r hr, if_pos rfl, if_pos rfl, vc z hz, if_pos rfl, vs z i hz hi16, if_pos ⟨rfl, rfl⟩, vo (by omega)]
      exact ⟨hz, hi, rfl, he, hs1, hs2⟩
    · rw [if_neg e] at hr2
      obtain ⟨t1, t2, t3, t4, t5, t6⟩ := h.pag r hr hr2
      have := sl16 _ (w _ t1).1
      have hne : ¬ (X (225 + r) = z ∧ X (255 + r) = i) := fun c => by
        rw [c.1, c.2] at t3; omega
      have hcl : clX Y (X (225 + r)) = clX X (X (225 + r)) := by
        rw [vc _ t1]
        by_cases g : X (225 + r) = z
        · rw [if_pos g, g]
          rcases hc with c | ⟨c, -⟩
          · exact c.symm
          · rw [g, c, fr_0.2] at t2; omega
        · rw [if_neg g]
      rw [vzn r hr, vst r hr, if_neg e, if_neg e, hcl, vs _ _ t1 (by omega), if_neg hne, vo (by omega)]
      exact ⟨t1, t2, t3, t4, t5, t6⟩
  · rw [vs r k hr hk] at hne ⊢
    by_cases e : r = z ∧ k = i
    · rw [if_pos e] at hne ⊢
      exact ⟨q, hq, rfl, by rw [vp q hq, if_pos rfl], by rw [vzn q hq, if_pos rfl, e.1], by rw [vst q hq, if_pos rfl, e.2]⟩
    · rw [if_neg e] at hne ⊢
      obtain ⟨q', e1, e2, e3, e4, e5⟩ := h.slt r k hr hk hne
      have hne' : q' ≠ q := fun c => hq2 (by rw [← c]; exact e3)
      exact ⟨q', e1, e2, by rw [vp _ e1, if_neg hne']; exact e3, by rw [vzn _ e1, if_neg hne']; exact e4, by rw [vst _ e1, if_neg hne']; exact e5⟩
  · rw [vf r hr]
    rw [vc r hr] at hne
    by_cases e : r = z
    · rw [if_pos e]; omega
    · rw [if_neg e] at hne ⊢
      exact h.clz r hr hne
  · rw [vo (by omega), vp r hr]
    have := h.hld r hr
    refine ⟨this.1, fun c => ?_⟩
    by_cases e : r = q
    · rw [if_pos e]
    · rw [if_neg e]; exact this.2 c
end EN
