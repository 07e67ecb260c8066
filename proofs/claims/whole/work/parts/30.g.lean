/-! (B) what always holds of the row; a page leaves the pool -/
def cntP (X : Nat → Nat) : Nat := sm (fun p => if X (165 + p) = 2 then 1 else 0) 0 30
def AGE (X : Nat → Nat) : Prop := (∀ k, k < X 315 → X (285 + k) < 30 ∧ X (165 + X (285 + k)) = 2) ∧ (∀ k l, k < X 315 → l < X 315 → X (285 + k) = X (285 + l) → k = l) ∧ (∀ p, p < 30 → X (165 + p) = 2 → ∃ k, k < X 315 ∧ X (285 + k) = p)
def PAG (st : Nat) (X : Nat → Nat) : Prop := ∀ p, p < 30 → X (165 + p) = 2 → X (225 + p) < 24 ∧ X (255 + p) < slN (clX X (X (225 + p))) ∧ slX X (X (225 + p)) (X (255 + p)) = p + 1 ∧ clX X (X (225 + p)) = hoN (X (195 + p)) st ∧ 3 ≤ X (195 + p) ∧ X (195 + p) ≤ 15
def SLT (X : Nat → Nat) : Prop := ∀ z i, z < 24 → i < 16 → slX X z i ≠ 0 → ∃ p, p < 30 ∧ slX X z i = p + 1 ∧ X (165 + p) = 2 ∧ X (225 + p) = z ∧ X (255 + p) = i
def CLZ (X : Nat → Nat) : Prop := ∀ z, z < 24 → clX X z ≠ 0 → filX X z ≠ 0
def HLD (X : Nat → Nat) : Prop := ∀ p, p < 30 → X (1204 + p) ≤ 1 ∧ (X (1204 + p) = 1 → X (165 + p) = 2)
def IX (st : Nat) (X : Nat → Nat) : Prop := (Sml X ∧ ZW X ∧ X 0 ≤ 24 ∧ frsX X ≤ 24) ∧ (X 315 = cntP X ∧ sm (filX X) 0 24 = X 315) ∧ AGE X ∧ PAG st X ∧ SLT X ∧ CLZ X ∧ HLD X
theorem IX.sml {st : Nat} {X : Nat → Nat} (h : IX st X) : Sml X := h.1.1
theorem IX.zw {st : Nat} {X : Nat → Nat} (h : IX st X) : ZW X := h.1.2.1
theorem IX.li {st : Nat} {X : Nat → Nat} (h : IX st X) : X 0 ≤ 24 := h.1.2.2.1
theorem IX.fr {st : Nat} {X : Nat → Nat} (h : IX st X) : frsX X ≤ 24 := h.1.2.2.2
theorem IX.nag {st : Nat} {X : Nat → Nat} (h : IX st X) : X 315 = cntP X := h.2.1.1
theorem IX.tot {st : Nat} {X : Nat → Nat} (h : IX st X) : sm (filX X) 0 24 = X 315 := h.2.1.2
theorem IX.age {st : Nat} {X : Nat → Nat} (h : IX st X) : AGE X := h.2.2.1
theorem IX.pag {st : Nat} {X : Nat → Nat} (h : IX st X) : PAG st X := h.2.2.2.1
theorem IX.slt {st : Nat} {X : Nat → Nat} (h : IX st X) : SLT X := h.2.2.2.2.1
theorem IX.clz {st : Nat} {X : Nat → Nat} (h : IX st X) : CLZ X := h.2.2.2.2.2.1
theorem IX.hld {st : Nat} {X : Nat → Nat} (h : IX st X) : HLD X := h.2.2.2.2.2.2
theorem IX.a30 {st : Nat} {X : Nat → Nat} (h : IX st X) : X 315 ≤ 30 := by
  rw [h.nag]
  have := sm_le (f := fun p => if X (165 + p) = 2 then 1 else 0) (b := 1) 30 0 (fun j _ _ => by split <;> omega)
  unfold cntP
  omega
section LV
variable {X : Nat → Nat} {p z i f v : Nat}
theorem lv_o {j : Nat} (h1 : j ≠ 820 + 16 * z + i) (h2 : j ≠ 796 + z) : lvX X z i j = X j := by
  unfold lvX
  split
  · rw [vu_n h2, vu_n h1]
  · rw [vu_n h1]
theorem lv_sl (hi : i < 16) {q k : Nat} (hq : q < 24) (hk : k < 16) (hz : z < 24) : slX (lvX X z i) q k = if q = z ∧ k = i then 0 else slX X q k := by
  unfold lvX
  by_cases e : q = z ∧ k = i
  · rw [if_pos e]
    obtain ⟨e1, e2⟩ := e
    subst e1; subst e2
    split
    · rw [sl_up (by omega), sl_ups]
    · rw [sl_ups]
  · rw [if_neg e]
    have : 820 + 16 * z + i ≠ 820 + 16 * q + k := by omega
    split
    · rw [sl_up (by omega), sl_up this]
    · rw [sl_up this]
theorem lv_fil (hi : i < 16) (hs : slX X z i ≠ 0) (hz : z < 24) {q : Nat} : filX (lvX X z i) q = if q = z then filX X z - 1 else filX X q := by
  have f1 := fil_ups (X := X) (v := 0) (j := z) (k := i) hi
  rw [if_neg hs, if_pos rfl] at f1
  have f3 : filX (lvX X z i) q = filX (va_up X (820 + 16 * z + i) 0) q := by
    unfold lvX
    split
    · rw [fil_up (fun k hk => by omega)]
    · rfl
  rw [f3]
  by_cases e : q = z
  · subst e
    rw [if_pos rfl]
    omega
  · rw [if_neg e, fil_up (fun k hk => by omega)]
theorem lv_cl (hi : i < 16) (hs : slX X z i ≠ 0) {q : Nat} (hq : q < 24) (hz : z < 24) : clX (lvX X z i) q = if q = z ∧ filX X z = 1 then 0 else clX X q := by
  have f1 := fil_ups (X := X) (v := 0) (j := z) (k := i) hi
  rw [if_neg hs, if_pos rfl] at f1
  unfold lvX
  by_cases e : filX (va_up X (820 + 16 * z + i) 0) z = 0
  · rw [if_pos e]
    by_cases g : q = z
    · subst g
      rw [cl_ups, if_pos ⟨rfl, by omega⟩]
    · rw [cl_up (by omega), cl_up (by omega), if_neg (fun w => g w.1)]
  · rw [if_neg e, cl_up (by omega), if_neg (fun w => by omega)]
/-- a page leaves slot and ages, its place is v then -/
def lX (X : Nat → Nat) (p z i f v : Nat) : Nat → Nat := va_up (va_up (fgX (lvX X z i) f) (165 + p) v) (1204 + p) 0
theorem fg_o {Y : Nat → Nat} {j : Nat} (hf : f < 30) (hn : Y 315 ≤ 30) (h1 : j < 285 ∨ 316 ≤ j) : fgX Y f j = Y j := by
  unfold fgX
  rw [if_neg (by omega), if_neg (by omega)]
theorem fg_a {Y : Nat → Nat} {k : Nat} (hk : k < Y 315 - 1) (hn : Y 315 ≤ 30) : fgX Y f (285 + k) = Y (285 + sh f k) := by
  unfold fgX sh
  rw [if_neg (by omega)]
  by_cases e : k < f
  · rw [if_neg (by omega), if_pos e]
  · rw [if_pos ⟨by omega, by omega⟩, if_neg e]
    rfl
theorem fg_n {Y : Nat → Nat} : fgX Y f 315 = Y 315 - 1 := if_pos rfl
theorem lX_o (hp : p < 30) (hz : z < 24) (hi : i < 16) (hf : f < 30) (hn : X 315 ≤ 30) {j : Nat} (h : j < 165 ∨ (195 ≤ j ∧ j < 285) ∨ (316 ≤ j ∧ j < 796)) : lX X p z i f v j = X j := by
  unfold lX
  have e : lvX X z i 315 = X 315 := lv_o (by omega) (by omega)
  rw [vu_n (by omega), vu_n (by omega), fg_o hf (by rw [e]; exact hn) (by omega), lv_o (by omega) (by omega)]
theorem lX_p (hp : p < 30) (hz : z < 24) (hi : i < 16) (hf : f < 30) (hn : X 315 ≤ 30) {q : Nat} (hq : q < 30) : lX X p z i f v (165 + q) = if q = p then v else X (165 + q) := by
  unfold lX
  have e : lvX X z i 315 = X 315 := lv_o (by omega) (by omega)
  by_cases g : q = p
  · subst g
    rw [if_pos rfl, vu_n (by omega), vu_s]
  · rw [if_neg g, vu_n (by omega), vu_n (by omega), fg_o hf (by rw [e]; exact hn) (by omega), lv_o (by omega) (by omega)]
theorem lX_h (hp : p < 30) (hz : z < 24) (hi : i < 16) (hf : f < 30) (hn : X 315 ≤ 30) {q : Nat} (hq : q < 30) : lX X p z i f v (1204 + q) = if q = p then 0 else X (1204 + q) := by
  unfold lX
  have e : lvX X z i 315 = X 315 := lv_o (by omega) (by omega)
  by_cases g : q = p
  · subst g
    rw [if_pos rfl, vu_s]
  · rw [if_neg g, vu_n (by omega), vu_n (by omega), fg_o hf (by rw [e]; exact hn) (by omega), lv_o (by omega) (by omega)]
theorem lX_n (hp : p < 30) (hz : z < 24) (hi : i < 16) : lX X p z i f v 315 = X 315 - 1 := by
  unfold lX
  rw [vu_n (by omega), vu_n (by omega), fg_n, lv_o (by omega) (by omega)]
theorem lX_a (hp : p < 30) (hz : z < 24) (hi : i < 16) (hn : X 315 ≤ 30) {k : Nat} (hk : k < X 315 - 1) : lX X p z i f v (285 + k) = X (285 + sh f k) := by
  unfold lX
  have e : lvX X z i 315 = X 315 := lv_o (by omega) (by omega)
  have s : sh f k < 30 := by unfold sh; split <;> omega
  rw [vu_n (by omega), vu_n (by omega), fg_a (by rw [e]; exact hk) (by rw [e]; exact hn), lv_o (by omega) (by omega)]
theorem lX_z (hp : p < 30) (hz : z < 24) (hi : i < 16) (hf : f < 30) (hn : X 315 ≤ 30) {j : Nat} (h1 : 796 ≤ j) (h2 : j < 1204) : lX X p z i f v j = lvX X z i j := by
  unfold lX
  have e : lvX X z i 315 = X 315 := lv_o (by omega) (by omega)
  rw [vu_n (by omega), vu_n (by omega), fg_o hf (by rw [e]; exact hn) (by omega)]
theorem fil_eq {X Y : Nat → Nat} {q : Nat} (hq : q < 24) (h : ∀ j, 796 ≤ j → j < 1204 → Y j = X j) : filX Y q = filX X q := by
  unfold filX
  exact sm_congr 16 0 (fun k _ hk => by unfold slX; rw [h _ (by omega) (by omega)])
theorem frs_eq {X Y : Nat → Nat} (h : ∀ j, 796 ≤ j → j < 1204 → Y j = X j) : frsX Y = frsX X := by
  unfold frsX
  exact sm_congr 24 0 (fun k _ hk => by unfold clX; rw [h _ (by omega) (by omega)])
theorem ZR.eq {X Y : Nat → Nat} {d : Pic} (hz : ZR d X) (h : ∀ j, 796 ≤ j → j < 1204 → Y j = X j) : ZR d Y := by
  refine ⟨by rw [frs_eq h]; exact hz.1, fun q hq => ?_, fun q k hq hk => ?_⟩
  · have e : clX Y q = clX X q := h _ (by omega) (by omega)
    rw [e, fil_eq hq h]
    exact hz.2.1 q hq
  · have e : slX Y q k = slX X q k := h _ (by omega) (by omega)
    rw [e]
    exact hz.2.2 q k hq hk
theorem sh_ne {k : Nat} : sh f k ≠ f := by unfold sh; split <;> omega
theorem sh_in {k n : Nat} (h : k < n - 1) : sh f k < n := by unfold sh; split <;> omega
theorem sh_inj {k l : Nat} (h : sh f k = sh f l) : k = l := by
  unfold sh at h
  split at h <;> split at h <;> omega
theorem sh_sur {k n : Nat} (h : k ≠ f) (hk : k < n) (hf : f < n) : ∃ l, l < n - 1 ∧ sh f l = k := by
  unfold sh
  by_cases e : k < f
  · exact ⟨k, by omega, if_pos e⟩
  · exact ⟨k - 1, by omega, by rw [if_neg (by omega)]; omega⟩
theorem sm_mono {f g : Nat → Nat} : ∀ (k z : Nat), (∀ j, z ≤ j → j < z + k → f j ≤ g j) → sm f z k ≤ sm g z k
  | 0, _, _ => Nat.le_refl 0
  | k + 1, z, h => by
    have h1 := h z (Nat.le_refl _) (by omega)
    have h2 := sm_mono (f := f) (g := g) k (z + 1) (fun j a b => h j (by omega) (by omega))
    show f z + sm f (z + 1) k ≤ g z + sm g (z + 1) k
    omega
theorem sm_upr {f g : Nat → Nat} {i : Nat} : ∀ (k z : Nat), z ≤ i → i < z + k → (∀ j, z ≤ j → j < z + k → j ≠ i → f j = g j) → sm f z k + g i = sm g z k + f i
  | 0, z, h1, h2, _ => by omega
  | k + 1, z, h1, h2, h => by
    show f z + sm f (z + 1) k + g i = g z + sm g (z + 1) k + f i
    by_cases e : z = i
    · subst e
      rw [sm_congr (f := f) (g := g) k (z + 1) (fun j a b => h j (by omega) (by omega) (by omega))]
      omega
    · have := sm_upr (f := f) (g := g) (i := i) k (z + 1) (by omega) (by omega) (fun j a b c => h j (by omega) (by omega) c)
      rw [h z (by omega) (by omega) e]
      omega
theorem frs_lv (hi : i < 16) (hs : slX X z i ≠ 0) (hz : z < 24) : frsX (lvX X z i) ≤ frsX X := by
  unfold frsX
  refine sm_mono 24 0 (fun q _ hq => ?_)
  rw [lv_cl hi hs (by omega) hz]
  split
  · rw [fr_0.1]; omega
  · exact Nat.le_refl _
theorem fil_pos (hi : i < 16) (hs : slX X z i ≠ 0) : 0 < filX X z := by
  have f1 := fil_ups (X := X) (v := 0) (j := z) (k := i) hi
  rw [if_neg hs, if_pos rfl] at f1
  omega
theorem fil_two {k : Nat} (hi : i < 16) (hk : k < 16) (hs : slX X z i ≠ 0) (hs' : slX X z k ≠ 0) (hne : k ≠ i) : filX X z ≠ 1 := by
  have f1 := fil_ups (X := X) (v := 0) (j := z) (k := i) hi
  rw [if_neg hs, if_pos rfl] at f1
  have := fil_pos (X := va_up X (820 + 16 * z + i) 0) (z := z) (i := k) hk (by rw [sl_up (by omega)]; exact hs')
  omega
theorem Sml.fg {Y : Nat → Nat} (h : Sml Y) : Sml (fgX Y f) := by
  intro j hj
  unfold fgX
  split
  · have := h 315 (by omega); omega
  · split
    · exact h _ (by omega)
    · exact h _ hj
theorem Sml.lv {Y : Nat → Nat} (h : Sml Y) : Sml (lvX Y z i) := by
  unfold lvX
  split
  · exact (h.up (by omega)).up (by omega)
  · exact h.up (by omega)
/-- all that holds, holds when a page has left -/
theorem IX.lv {st : Nat} (h : IX st X) (hp : p < 30) (hpl : X (165 + p) = 2) (hz : X (225 + p) = z) (hi : X (255 + p) = i) (hf : f < X 315) (hfp : X (285 + f) = p) (hv : v < 4) (hv2 : v ≠ 2) : IX st (lX X p z i f v) := by
  have hn := h.a30
  obtain ⟨g1, g2, g3, g4, g5, g6⟩ := h.pag p hp hpl
  rw [hz] at g1 g2 g3 g4
  rw [hi] at g2 g3
  have hs16 := sl16 _ (h.zw z g1).1
  have hi16 : i < 16 := by omega
  have hf30 : f < 30 := by omega
  have hsl : slX X z i ≠ 0 := by omega
  have vo := fun {j : Nat} => lX_o (X := X) (p := p) (z := z) (i := i) (f := f) (v := v) hp g1 hi16 hf30 hn (j := j)
  have vp := fun {q : Nat} => lX_p (X := X) (p := p) (z := z) (i := i) (f := f) (v := v) hp g1 hi16 hf30 hn (q := q)
  have vh := fun {q : Nat} => lX_h (X := X) (p := p) (z := z) (i := i) (f := f) (v := v) hp g1 hi16 hf30 hn (q := q)
  have va := fun {k : Nat} => lX_a (X := X) (p := p) (z := z) (i := i) (f := f) (v := v) hp g1 hi16 hn (k := k)
  have vn := lX_n (X := X) (p := p) (z := z) (i := i) (f := f) (v := v) hp g1 hi16
  have vz := fun {j : Nat} => lX_z (X := X) (p := p) (z := z) (i := i) (f := f) (v := v) hp g1 hi16 hf30 hn (j := j)
  have vs : ∀ q k, q < 24 → k < 16 → slX (lX X p z i f v) q k = if q = z ∧ k = i then 0 else slX X q k := by
    intro q k hq hk
    rw [← lv_sl (X := X) hi16 hq hk g1]
    exact vz (by omega) (by omega)
  have vc : ∀ q, q < 24 → clX (lX X p z i f v) q = if q = z ∧ filX X z = 1 then 0 else clX X q := by
    intro q hq
    rw [← lv_cl (X := X) hi16 hsl hq g1]
    exact vz (by omega) (by omega)
  have vf : ∀ q, q < 24 → filX (lX X p z i f v) q = if q = z then filX X z - 1 else filX X q := by
    intro q hq
    rw [← lv_fil (X := X) hi16 hsl g1]
    exact fil_eq hq (fun j a b => vz a b)
  have vm : Sml (lX X p z i f v) := ((h.sml.lv.fg).up (by omega)).up (by omega)
  have vfr : frsX (lX X p z i f v) ≤ 24 := by
    have := frs_lv (X := X) hi16 hsl g1
    have e : frsX (lX X p z i f v) = frsX (lvX X z i) := frs_eq (fun j a b => vz a b)
    have := h.fr
    omega
  clear vz
  generalize lX X p z i f v = Y at *
  -- a page that is in the pool then was there, in another slot
  have pool : ∀ q, q < 30 → Y (165 + q) = 2 → q ≠ p ∧ X (165 + q) = 2 ∧ ¬ (X (225 + q) = z ∧ X (255 + q) = i) := by
    intro q hq hq2
    rw [vp hq] at hq2
    by_cases e : q = p
    · rw [if_pos e] at hq2; exact absurd hq2 hv2
    · rw [if_neg e] at hq2
      refine ⟨e, hq2, fun w => e ?_⟩
      have := (h.pag q hq hq2).2.2.1
      rw [w.1, w.2] at this
      omega
  have filpos : 0 < filX X z := fil_pos hi16 hsl
  have w := h.zw
  refine ⟨⟨vm, fun q hq => ?_, by rw [vo (by omega)]; exact h.li, vfr⟩, ⟨?_, ?_⟩, ⟨fun k hk => ?_, fun k l hk hl e => ?_, fun q hq hq2 => ?_⟩, fun q hq hq2 => ?_, fun q k hq hk hne => ?_, fun q hq hne => ?_, fun q hq => ?_⟩
  · rw [vc q hq, vf q hq]
    have w1 := w q hq
    by_cases e : q = z
    · subst e
      rw [if_pos rfl]
      by_cases e1 : filX X q = 1
      · rw [if_pos ⟨rfl, e1⟩]; exact ⟨by omega, by omega⟩
      · rw [if_neg (fun t => e1 t.2)]; exact ⟨w1.1, by omega⟩
    · rw [if_neg (fun t => e t.1), if_neg e]; exact w1
  · have := h.nag
    unfold cntP at this ⊢
    have u := sm_upr (f := fun q => if Y (165 + q) = 2 then 1 else 0) (g := fun q => if X (165 + q) = 2 then 1 else 0) (i := p) 30 0 (by omega) (by omega) (fun q _ hq hne => by
      rw [vp (by omega), if_neg hne])
    rw [if_pos hpl, vp hp, if_pos rfl, if_neg hv2] at u
    omega
  · have := h.tot
    have u := sm_upr (f := filX Y) (g := filX X) (i := z) 24 0 (by omega) (by omega) (fun q _ hq hne => by
      rw [vf q (by omega), if_neg hne])
    rw [vf z g1, if_pos rfl] at u
    omega
  · rw [vn] at hk
    rw [va hk]
    have s1 := sh_in (f := f) hk
    obtain ⟨a1, a2⟩ := h.age.1 _ s1
    refine ⟨a1, ?_⟩
    rw [vp a1, if_neg (fun e => sh_ne (h.age.2.1 _ _ s1 hf (e.trans hfp.symm)))]
    exact a2
  · rw [vn] at hk hl
    rw [va hk, va hl] at e
    exact sh_inj (h.age.2.1 _ _ (sh_in hk) (sh_in hl) e)
  · obtain ⟨q1, q2, q3⟩ := pool q hq hq2
    obtain ⟨k, k1, k2⟩ := h.age.2.2 q hq q2
    obtain ⟨l, l1, l2⟩ := sh_sur (k := k) (f := f) (fun e => q1 (by rw [← k2, e, hfp])) k1 hf
    exact ⟨l, by rw [vn]; exact l1, by rw [va l1, l2, k2]⟩
  · obtain ⟨q1, q2, q3⟩ := pool q hq hq2
    obtain ⟨t1, t2, t3, t4, t5, t6⟩ := h.pag q hq q2
    have hs2 := sl16 _ (w _ t1).1
    have ec : clX Y (X (225 + q)) = clX X (X (225 + q)) := by
      rw [vc _ t1]
      refine if_neg (fun e => ?_)
      have t3' : slX X z (X (255 + q)) ≠ 0 := by rw [← e.1, t3]; omega
      exact fil_two hi16 (by omega) hsl t3' (fun c => q3 ⟨e.1, c⟩) e.2
    rw [vo (by omega), vo (by omega), vo (by omega), ec, vs _ _ t1 (by omega), if_neg q3]
    exact ⟨t1, t2, t3, t4, t5, t6⟩
  · rw [vs q k hq hk] at hne ⊢
    by_cases e : q = z ∧ k = i
    · rw [if_pos e] at hne; exact absurd rfl hne
    · rw [if_neg e] at hne ⊢
      obtain ⟨q', e1, e2, e3, e4, e5⟩ := h.slt q k hq hk hne
      refine ⟨q', e1, e2, ?_, by rw [vo (by omega)]; exact e4, by rw [vo (by omega)]; exact e5⟩
      rw [vp e1, if_neg (fun c => e ?_)]
      · exact e3
      · subst c
        exact ⟨e4.symm.trans hz, e5.symm.trans hi⟩
  · rw [vc q hq] at hne
    rw [vf q hq]
    by_cases e : q = z
    · subst e
      rw [if_pos rfl]
      by_cases e1 : filX X q = 1
      · rw [if_pos ⟨rfl, e1⟩] at hne; exact absurd rfl hne
      · omega
    · rw [if_neg e]
      rw [if_neg (fun t => e t.1)] at hne
      exact h.clz q hq hne
  · rw [vh hq, vp hq]
    by_cases e : q = p
    · rw [if_pos e, if_pos e]; exact ⟨by omega, fun c => by omega⟩
    · rw [if_neg e, if_neg e]; exact h.hld q hq
end LV
