/-! (B) writing into the row, into the zones -/
theorem sm_up {f g : Nat → Nat} {i : Nat} : ∀ (k z : Nat), z ≤ i → i < z + k → (∀ j, j ≠ i → f j = g j) → sm f z k + g i = sm g z k + f i
  | 0, z, h1, h2, _ => by omega
  | k + 1, z, h1, h2, h => by
    show f z + sm f (z + 1) k + g i = g z + sm g (z + 1) k + f i
    by_cases e : z = i
    · subst e
      rw [sm_congr (f := f) (g := g) k (z + 1) (fun j a b => h j (by omega))]
      omega
    · have := sm_up (f := f) (g := g) (i := i) k (z + 1) (by omega) (by omega) h
      rw [h z e]
      omega
def SameX (d d' : Pic) : Prop := d'.1 = d.1 ∧ ∀ k, k ≠ 20 → d'.2 k = d.2 k
theorem SameX.rf {d : Pic} : SameX d d := ⟨rfl, fun _ _ => rfl⟩
theorem SameX.tr {a b c : Pic} (h1 : SameX a b) (h2 : SameX b c) : SameX a c := ⟨h2.1.trans h1.1, fun k hk => (h2.2 k hk).trans (h1.2 k hk)⟩
theorem SameX.g {a b : Pic} (h : SameX a b) (k : Nat) : gS b k = gS a k := by unfold gS; rw [h.1]
theorem wA_e {p : Pic} (k : Nat) {n j : Nat} (v : Int32) (h : j < n) (hn : n < 2 ^ 31) : ∃ p', wA p k n (nI j) v = some p' ∧ p'.1 = p.1 ∧ p'.2 k = upd (p.2 k) j v ∧ ∀ q, q ≠ k → p'.2 q = p.2 q :=
  ⟨_, wA_n h hn, rfl, vu_s, fun _ hq => vu_n hq⟩
theorem pS_e (p : Pic) (k : Nat) (v : Int32) : ∃ p', pS p k v = p' ∧ gS p' k = v ∧ (∀ q, q ≠ k → gS p' q = gS p q) ∧ p'.2 = p.2 := ⟨_, rfl, gS_s, fun _ hq => gS_n hq, rfl⟩
theorem m_w {d : Pic} {X : Nat → Nat} (h : MX d X) {j : Nat} (v : Nat) (hj : j < 1234) : ∃ d', wA d 20 1234 (nI j) (nI v) = some d' ∧ SameX d d' ∧ MX d' (va_up X j v) := by
  obtain ⟨d', e, a, b, c⟩ := wA_e (p := d) 20 (nI v) hj (by decide)
  refine ⟨d', e, ⟨a, c⟩, fun i hi => ?_⟩
  rw [b]
  by_cases e : i = j
  · subst e; rw [up_s, vu_s]
  · rw [up_n e, vu_n e]; exact h i hi
theorem Sml.up {X : Nat → Nat} (h : Sml X) {i v : Nat} (hv : v < 2 ^ 31) : Sml (va_up X i v) := by
  intro j hj
  by_cases e : j = i
  · subst e; rw [vu_s]; exact hv
  · rw [vu_n e]; exact h j hj
theorem Sml.upt {X : Nat → Nat} (h : Sml X) {i v : Nat} (hi : i < 5) : Sml (va_up X i v) := by
  intro j hj
  rw [vu_n (by omega)]
  exact h j hj
theorem cl_up {X : Nat → Nat} {i v j : Nat} (h : i ≠ 796 + j) : clX (va_up X i v) j = clX X j := vu_n (fun e => h e.symm)
theorem cl_ups {X : Nat → Nat} {v j : Nat} : clX (va_up X (796 + j) v) j = v := vu_s
theorem sl_up {X : Nat → Nat} {i v j k : Nat} (h : i ≠ 820 + 16 * j + k) : slX (va_up X i v) j k = slX X j k := vu_n (fun e => h e.symm)
theorem sl_ups {X : Nat → Nat} {v j k : Nat} : slX (va_up X (820 + 16 * j + k) v) j k = v := vu_s
theorem fil_up {X : Nat → Nat} {i v j : Nat} (h : ∀ k, k < 16 → i ≠ 820 + 16 * j + k) : filX (va_up X i v) j = filX X j := by
  unfold filX
  exact sm_congr 16 0 (fun k _ hk => by rw [sl_up (h k (by omega))])
theorem fil_ups {X : Nat → Nat} {v j k : Nat} (hk : k < 16) : filX (va_up X (820 + 16 * j + k) v) j + (if slX X j k = 0 then 0 else 1) = filX X j + (if v = 0 then 0 else 1) := by
  have := sm_up (f := fun i => if slX (va_up X (820 + 16 * j + k) v) j i = 0 then 0 else 1) (g := fun i => if slX X j i = 0 then 0 else 1) (i := k) 16 0 (by omega) (by omega) (fun i hi => by rw [sl_up (by omega)])
  rw [sl_ups] at this
  exact this
theorem frs_up {X : Nat → Nat} {i v : Nat} (h : ∀ j, j < 24 → i ≠ 796 + j) : frsX (va_up X i v) = frsX X := by
  unfold frsX
  exact sm_congr 24 0 (fun k _ hk => by rw [cl_up (h k (by omega))])
theorem frs_ups {X : Nat → Nat} {v j : Nat} (hj : j < 24) : frsX (va_up X (796 + j) v) + frN (clX X j) = frsX X + frN v := by
  have := sm_up (f := fun i => frN (clX (va_up X (796 + j) v) i)) (g := fun i => frN (clX X i)) (i := j) 24 0 (by omega) (by omega) (fun i hi => by rw [cl_up (by omega)])
  rw [cl_ups] at this
  exact this
section ZU
variable {d z : Pic} {X : Nat → Nat}
/-- a slot is written: the zone's pages, and how many it has -/
theorem ZR.slot (h : ZR z X) {j i v : Nat} (hj : j < 24) (hi : i < 16) {z' : Pic} (h0 : z'.1 0 = z.1 0) (h1 : z'.2 1 = z.2 1) (h2 : z'.2 2 = z.2 2) (h3 : z'.2 3 = z.2 3) (h4 : z'.2 4 = upd (z.2 4) j (nI (filX (va_up X (820 + 16 * j + i) v) j))) (h5 : z'.2 5 = upd (z.2 5) (j * 16 + i) (pgI v)) : ZR z' (va_up X (820 + 16 * j + i) v) := by
  refine ⟨?_, fun k hk => ?_, fun k q hk hq => ?_⟩
  · rw [frs_up (fun k _ => by omega), h0]; exact h.1
  · have := h.2.1 k hk
    rw [cl_up (by omega), h1, h2, h3, h4]
    by_cases e : k = j
    · subst e; rw [up_s]; exact ⟨this.1, this.2.1, this.2.2.1, rfl⟩
    · rw [up_n e, fil_up (fun q hq => by omega)]; exact this
  · rw [h5]
    by_cases e : k * 16 + q = j * 16 + i
    · have e1 : k = j := by omega
      have e2 : q = i := by omega
      subst e1; subst e2
      rw [up_s, sl_ups]
    · rw [up_n e, sl_up (by omega)]; exact h.2.2 k q hk hq
/-- a zone's class is written -/
theorem ZR.cls (h : ZR z X) {j v : Nat} (hj : j < 24) {z' : Pic} (h0 : z'.1 0 = nI (frsX (va_up X (796 + j) v))) (h1 : z'.2 1 = upd (z.2 1) j (nI v)) (h2 : z'.2 2 = upd (z.2 2) j (nI (frN v))) (h3 : z'.2 3 = upd (z.2 3) j (nI (slN v))) (h4 : z'.2 4 = z.2 4) (h5 : z'.2 5 = z.2 5) : ZR z' (va_up X (796 + j) v) := by
  refine ⟨h0, fun k hk => ?_, fun k q hk hq => ?_⟩
  · have := h.2.1 k hk
    rw [h1, h2, h3, h4, fil_up (fun q hq => by omega)]
    by_cases e : k = j
    · subst e
      rw [up_s, up_s, up_s, cl_ups]
      exact ⟨rfl, rfl, rfl, this.2.2.2⟩
    · rw [up_n e, up_n e, up_n e, cl_up (by omega)]
      exact this
  · rw [h5, sl_up (by omega)]
    exact h.2.2 k q hk hq
/-- a page leaves its slot; a zone without any goes -/
def lvX (X : Nat → Nat) (j i : Nat) : Nat → Nat := if filX (va_up X (820 + 16 * j + i) 0) j = 0 then va_up (va_up X (820 + 16 * j + i) 0) (796 + j) 0 else va_up X (820 + 16 * j + i) 0
theorem z_out (h : ZR z X) (hw : ZW X) {j i : Nat} (hj : j < 24) (hi : i < slN (clX X j)) (hs : slX X j i ≠ 0) : ∃ z', f_X7_takeOut z (nI j) (nI i) = some z' ∧ ZR z' (lvX X j i) := by
  have c1 := (hw j hj).1
  have c2 := sl16 _ c1
  have f1 := fil_ups (X := X) (v := 0) (j := j) (k := i) (by omega)
  rw [if_neg hs, if_pos rfl] at f1
  have f2 := fil_le X j
  unfold f_X7_takeOut
  rw [if_neg (nI_pos (by omega)), li 24, if_neg (nI_ge hj (by decide)), if_neg (nI_pos (by omega)), rA_n hj (by decide), bs, (h.2.1 j hj).2.2.1, if_neg (nI_ge hi (by omega)), li 16, if_pos (nI_lt (by omega) (by decide)), nI_mul, nI_add]
  obtain ⟨z2, w2, a2, b2, c2⟩ := wA_e (p := z) 5 (n := 384) (j := j * 16 + i) (-2) (by omega) (by decide)
  rw [w2, bs, rA_n hj (by decide), bs, c2 4 (by decide), (h.2.1 j hj).2.2.2]
  have en : nI (filX X j) - 1 = nI (filX (va_up X (820 + 16 * j + i) 0) j) := by
    rw [li 1, nI_sub (by omega)]
    exact congrArg nI (by omega)
  rw [en]
  obtain ⟨z4, w4, a4, b4, c4⟩ := wA_e (p := z2) 4 (n := 24) (nI (filX (va_up X (820 + 16 * j + i) 0) j)) hj (by decide)
  rw [w4, bs, rA_n hj (by decide), bs, b4, up_s]
  have hz4 : ZR z4 (va_up X (820 + 16 * j + i) 0) := ZR.slot h hj (by omega) (by rw [a4, a2]) (by rw [c4 1 (by decide), c2 1 (by decide)]) (by rw [c4 2 (by decide), c2 2 (by decide)]) (by rw [c4 3 (by decide), c2 3 (by decide)]) (by rw [b4, c2 4 (by decide)]) (by rw [c4 5 (by decide), b2]; rfl)
  unfold lvX
  by_cases e : filX (va_up X (820 + 16 * j + i) 0) j = 0
  · rw [if_pos (by rw [e]; rfl), if_pos e, rA_n hj (by decide), bs, bs]
    obtain ⟨z7, w7, a7, b7, c7⟩ := pS_e z4 0 (gS z4 0 - z4.2 2 j)
    rw [w7]
    obtain ⟨z8, w8, a8, b8, c8⟩ := wA_e (p := z7) 1 (n := 24) 0 hj (by decide)
    rw [w8, bs]
    obtain ⟨z9, w9, a9, b9, c9⟩ := wA_e (p := z8) 2 (n := 24) 0 hj (by decide)
    rw [w9, bs]
    obtain ⟨zt, wt, at_, bt, ct⟩ := wA_e (p := z9) 3 (n := 24) 0 hj (by decide)
    rw [wt, bs]
    refine ⟨zt, rfl, ?_⟩
    have g := frs_ups (X := va_up X (820 + 16 * j + i) 0) (v := 0) hj
    rw [fr_0.1] at g
    refine hz4.cls hj ?_ ?_ ?_ ?_ ?_ ?_
    · rw [at_, a9, a8]
      show gS z7 0 = _
      rw [a7, show gS z4 0 = nI _ from hz4.1, (hz4.2.1 j hj).2.1, nI_sub (by omega)]
      exact congrArg nI (by omega)
    · rw [ct 1 (by decide), c9 1 (by decide), b8, c7]; rfl
    · rw [ct 2 (by decide), b9, c8 2 (by decide), c7, fr_0.1]; rfl
    · rw [bt, c9 3 (by decide), c8 3 (by decide), c7, fr_0.2]; rfl
    · rw [ct 4 (by decide), c9 4 (by decide), c8 4 (by decide), c7]
    · rw [ct 5 (by decide), c9 5 (by decide), c8 5 (by decide), c7]
  · have := fil_le (va_up X (820 + 16 * j + i) 0) j
    rw [if_neg (nI_ne0 (by omega) (by omega)), if_neg e]
    exact ⟨z4, rfl, hz4⟩
end ZU
