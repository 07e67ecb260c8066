/-! (B) the reference's row, its zones -/
/-- the row x of the reference, as natural numbers; none of them large -/
def MX (d : Pic) (X : Nat → Nat) : Prop := ∀ j, j < 1234 → d.2 20 j = nI (X j)
def Sml (X : Nat → Nat) : Prop := ∀ j, 5 ≤ j → X j < 2 ^ 31
def clX (X : Nat → Nat) (z : Nat) : Nat := X (796 + z)
def slX (X : Nat → Nat) (z i : Nat) : Nat := X (820 + 16 * z + i)
def filX (X : Nat → Nat) (z : Nat) : Nat := sm (fun i => if slX X z i = 0 then 0 else 1) 0 16
theorem fil_le (X : Nat → Nat) (z : Nat) : filX X z ≤ 16 := by
  have := sm_le (f := fun i => if slX X z i = 0 then 0 else 1) (b := 1) 16 0 (fun j _ _ => by split <;> omega)
  unfold filX
  omega
theorem m_x {d : Pic} {X : Nat → Nat} (h : MX d X) {j : Nat} (hj : j < 1234) : rA d 20 1234 (nI j) = some (nI (X j)) := by
  rw [rA_n hj (by decide), h j hj]
theorem m_cl {d : Pic} {X : Nat → Nat} (h : MX d X) {z : Nat} (hz : z < 24) : f_X9_classOf d (nI z) = some (nI (clX X z)) := by
  unfold f_X9_classOf
  rw [li 796, nI_add, m_x h (by omega)]
  rfl
theorem m_at (z i : Nat) : f_X9_slotAt (nI z) (nI i) = some (nI (820 + 16 * z + i)) := by
  unfold f_X9_slotAt
  rw [li 820, li 16, nI_mul, nI_add, nI_add]
theorem m_fil {d : Pic} {X : Nat → Nat} (h : MX d X) (hs : Sml X) {z : Nat} (hz : z < 24) : f_X9_fillOf d (nI z) = some (nI (filX X z)) := by
  have key := loop_sm (L := L_X9_fillOf_4 d (nI z)) (fin := some) (f := fun i => if slX X z i = 0 then 0 else 1) (m := 16) (fun n acc => ?_) (fun n acc i hi => ?_) 16 0 FU 0 rfl (FU_ge (by omega))
  · rw [Nat.zero_add] at key
    exact key
  · show b_X9_fillOf_4 d (nI z) (L_X9_fillOf_4 d (nI z) n) (nI acc) (nI 16) = _
    unfold b_X9_fillOf_4
    rw [li 16, if_pos (nI_le (Nat.le_refl 16) (by decide))]
  · show b_X9_fillOf_4 d (nI z) (L_X9_fillOf_4 d (nI z) n) (nI acc) (nI i) = _
    unfold b_X9_fillOf_4
    rw [li 16, if_neg (nI_ge hi (by decide)), m_at, bs, m_x h (by omega), bs, li 0, li 1, nI_add, nI_add, nI_add]
    have hlt := hs (820 + 16 * z + i) (by omega)
    by_cases h0 : X (820 + 16 * z + i) = 0
    · rw [if_pos (by rw [h0]; exact nI_le (Nat.le_refl 0) (by decide))]
      rw [if_pos (show slX X z i = 0 from h0)]
    · rw [if_neg (nI_ge (by omega) hlt)]
      rw [if_neg (show ¬ slX X z i = 0 from h0)]

def oI (o : Option Nat) : Int32 := match o with
  | none => -1
  | some z => nI z
def pgI (n : Nat) : Int32 := match n with
  | 0 => -2
  | p + 1 => nI p
def frsX (X : Nat → Nat) : Nat := sm (fun j => frN (clX X j)) 0 24
/-- the zones of the class, as the row has them -/
def ZR (z : Pic) (X : Nat → Nat) : Prop := z.1 0 = nI (frsX X) ∧ (∀ j, j < 24 → z.2 1 j = nI (clX X j) ∧ z.2 2 j = nI (frN (clX X j)) ∧ z.2 3 j = nI (slN (clX X j)) ∧ z.2 4 j = nI (filX X j)) ∧ ∀ j i, j < 24 → i < 16 → z.2 5 (j * 16 + i) = pgI (slX X j i)
/-- what always holds of the zones: classes, and no zone has more pages than slots -/
def ZW (X : Nat → Nat) : Prop := ∀ j, j < 24 → clX X j < 17 ∧ filX X j ≤ slN (clX X j)
theorem oI_neg : ∀ o : Option Nat, (∀ z, o = some z → z < 2 ^ 31) → (oI o < 0 ↔ o = none)
  | none, _ => by simp [oI]
  | some z, h => by
    have := nI_pos (h z rfl)
    simp [oI, this]
theorem nI_m1 {z : Nat} (h : z < 2 ^ 31) : ¬ nI z = -1 := by
  intro e
  have h1 := nI_toInt h
  rw [e] at h1
  have h2 : (-1 : Int32).toInt = -1 := by decide
  omega
theorem nI_m2 {z : Nat} (h : z < 2 ^ 31) : ¬ nI z = -2 := by
  intro e
  have h1 := nI_toInt h
  rw [e] at h1
  have h2 : (-2 : Int32).toInt = -2 := by decide
  omega
theorem sl16 : ∀ s, s < 17 → slN s ≤ 16 := by decide
section ZB
variable {d z : Pic} {X : Nat → Nat}
theorem m_full (h : MX d X) (hs : Sml X) (hw : ZW X) {j : Nat} (hj : j < 24) (h0 : 0 < clX X j) : f_X9_isFull d (nI j) = some (if filX X j = slN (clX X j) then 1 else 0) := by
  unfold f_X9_isFull
  rw [m_fil h hs hj, bs, m_cl h hj, bs, X9_sl _ (hw j hj).1 h0, bs]
  have h1 := fil_le X j
  have h2 := sl16 _ (hw j hj).1
  by_cases e : filX X j = slN (clX X j)
  · rw [if_pos e, if_pos (by rw [e])]
  · rw [if_neg e, if_neg (fun q => e ((nI_eq (by omega) (by omega)).mp q))]
theorem m_zof (h : MX d X) (hw : ZW X) {s : Nat} (hs : s < 17) : f_X9_zonesOf d (nI s) = some (nI (sm (fun j => if clX X j = s then 1 else 0) 0 24)) := by
  have key := loop_sm (L := L_X9_zonesOf_4 d (nI s)) (fin := some) (f := fun j => if clX X j = s then 1 else 0) (m := 24) (fun n acc => ?_) (fun n acc i hi => ?_) 24 0 FU 0 rfl (FU_ge (by omega))
  · rw [Nat.zero_add] at key
    exact key
  · show b_X9_zonesOf_4 d (nI s) _ (nI acc) (nI 24) = _
    unfold b_X9_zonesOf_4
    rw [li 24, if_pos (nI_le (Nat.le_refl 24) (by decide))]
  · show b_X9_zonesOf_4 d (nI s) _ (nI acc) (nI i) = _
    unfold b_X9_zonesOf_4
    have := (hw i hi).1
    rw [li 24, if_neg (nI_ge hi (by decide)), m_cl h hi, bs, li 0, li 1, nI_add, nI_add, nI_add]
    by_cases e : clX X i = s
    · rw [if_pos (by rw [e]), if_pos e]
    · rw [if_neg (fun q => e ((nI_eq (by omega) (by omega)).mp q)), if_neg e]
theorem m_pof (h : MX d X) (hl : Sml X) (hw : ZW X) {s : Nat} (hs : s < 17) : f_X9_pagesOf d (nI s) = some (nI (sm (fun j => if clX X j = s then filX X j else 0) 0 24)) := by
  have key := loop_sm (L := L_X9_pagesOf_4 d (nI s)) (fin := some) (f := fun j => if clX X j = s then filX X j else 0) (m := 24) (fun n acc => ?_) (fun n acc i hi => ?_) 24 0 FU 0 rfl (FU_ge (by omega))
  · rw [Nat.zero_add] at key
    exact key
  · show b_X9_pagesOf_4 d (nI s) _ (nI acc) (nI 24) = _
    unfold b_X9_pagesOf_4
    rw [li 24, if_pos (nI_le (Nat.le_refl 24) (by decide))]
  · show b_X9_pagesOf_4 d (nI s) _ (nI acc) (nI i) = _
    unfold b_X9_pagesOf_4
    have := (hw i hi).1
    rw [li 24, if_neg (nI_ge hi (by decide)), m_cl h hi, bs, m_fil h hl hi, bs, li 0, li 1, nI_add, nI_add, nI_add]
    by_cases e : clX X i = s
    · rw [if_pos (by rw [e]), if_pos e]
    · rw [if_neg (fun q => e ((nI_eq (by omega) (by omega)).mp q)), if_neg e]
theorem m_znow (h : MX d X) (hw : ZW X) : f_X9_zonesNow d = some (nI (sm (fun j => if clX X j = 0 then 0 else 1) 0 24)) := by
  have key := loop_sm (L := L_X9_zonesNow_4 d) (fin := some) (f := fun j => if clX X j = 0 then 0 else 1) (m := 24) (fun n acc => ?_) (fun n acc i hi => ?_) 24 0 FU 0 rfl (FU_ge (by omega))
  · rw [Nat.zero_add] at key
    exact key
  · show b_X9_zonesNow_4 d _ (nI acc) (nI 24) = _
    unfold b_X9_zonesNow_4
    rw [li 24, if_pos (nI_le (Nat.le_refl 24) (by decide))]
  · show b_X9_zonesNow_4 d _ (nI acc) (nI i) = _
    unfold b_X9_zonesNow_4
    have := (hw i hi).1
    rw [li 24, if_neg (nI_ge hi (by decide)), m_cl h hi, bs, li 0, li 1, nI_add, nI_add, nI_add]
    by_cases e : clX X i = 0
    · rw [if_pos (by rw [e]; exact nI_le (Nat.le_refl 0) (by decide)), if_pos e]
    · rw [if_neg (nI_ge (by omega) (by omega)), if_neg e]
theorem m_fnow (h : MX d X) (hw : ZW X) : f_X9_framesNow d = some (nI (frsX X)) := by
  have key := loop_sm (L := L_X9_framesNow_4 d) (fin := some) (f := fun j => frN (clX X j)) (m := 24) (fun n acc => ?_) (fun n acc i hi => ?_) 24 0 FU 0 rfl (FU_ge (by omega))
  · rw [Nat.zero_add] at key
    exact key
  · show b_X9_framesNow_4 d _ (nI acc) (nI 24) = _
    unfold b_X9_framesNow_4
    rw [li 24, if_pos (nI_le (Nat.le_refl 24) (by decide))]
  · show b_X9_framesNow_4 d _ (nI acc) (nI i) = _
    unfold b_X9_framesNow_4
    have := (hw i hi).1
    rw [li 24, if_neg (nI_ge hi (by decide)), m_cl h hi, bs, bs, li 0, li 1, nI_add, nI_add]
    by_cases e : clX X i = 0
    · rw [if_pos (by rw [e]; exact nI_le (Nat.le_refl 0) (by decide)), e]
      rfl
    · rw [if_neg (nI_ge (by omega) (by omega)), X9_fr _ this (by omega), bs, nI_add]
-- the class's
theorem z_cnt (h : ZR z X) (hw : ZW X) : f_X7_countAll z = some (nI (sm (fun j => if clX X j = 0 then 0 else 1) 0 24)) := by
  have key := loop_sm (L := L_X7_countAll_4 z) (fin := some) (f := fun j => if clX X j = 0 then 0 else 1) (m := 24) (fun n acc => ?_) (fun n acc i hi => ?_) 24 0 FU 0 rfl (FU_ge (by omega))
  · rw [Nat.zero_add] at key
    exact key
  · show b_X7_countAll_4 z _ (nI acc) (nI 24) = _
    unfold b_X7_countAll_4
    rw [li 24, if_pos (nI_le (Nat.le_refl 24) (by decide))]
  · show b_X7_countAll_4 z _ (nI acc) (nI i) = _
    unfold b_X7_countAll_4
    have := (hw i hi).1
    rw [li 24, if_neg (nI_ge hi (by decide)), rA_n hi (by decide), bs, (h.2.1 i hi).1, li 0, li 1, nI_add, nI_add, nI_add]
    by_cases e : clX X i = 0
    · rw [if_pos (by rw [e]; exact nI_le (Nat.le_refl 0) (by decide)), if_pos e]
    · rw [if_neg (nI_ge (by omega) (by omega)), if_neg e]
theorem z_cof (h : ZR z X) (hw : ZW X) {s : Nat} (hs : s < 17) : f_X7_countOf z (nI s) = some (nI (sm (fun j => if clX X j = s then 1 else 0) 0 24)) := by
  have key := loop_sm (L := L_X7_countOf_4 z (nI s)) (fin := some) (f := fun j => if clX X j = s then 1 else 0) (m := 24) (fun n acc => ?_) (fun n acc i hi => ?_) 24 0 FU 0 rfl (FU_ge (by omega))
  · rw [Nat.zero_add] at key
    exact key
  · show b_X7_countOf_4 z (nI s) _ (nI acc) (nI 24) = _
    unfold b_X7_countOf_4
    rw [li 24, if_pos (nI_le (Nat.le_refl 24) (by decide))]
  · show b_X7_countOf_4 z (nI s) _ (nI acc) (nI i) = _
    unfold b_X7_countOf_4
    have := (hw i hi).1
    rw [li 24, if_neg (nI_ge hi (by decide)), rA_n hi (by decide), bs, (h.2.1 i hi).1, li 0, li 1, nI_add, nI_add, nI_add]
    by_cases e : clX X i = s
    · rw [if_pos (by rw [e]), if_pos e]
    · rw [if_neg (fun q => e ((nI_eq (by omega) (by omega)).mp q)), if_neg e]
theorem z_pof (h : ZR z X) (hw : ZW X) {s : Nat} (hs : s < 17) : f_X7_pagesOf z (nI s) = some (nI (sm (fun j => if clX X j = s then filX X j else 0) 0 24)) := by
  have key := loop_sm (L := L_X7_pagesOf_4 z (nI s)) (fin := some) (f := fun j => if clX X j = s then filX X j else 0) (m := 24) (fun n acc => ?_) (fun n acc i hi => ?_) 24 0 FU 0 rfl (FU_ge (by omega))
  · rw [Nat.zero_add] at key
    exact key
  · show b_X7_pagesOf_4 z (nI s) _ (nI acc) (nI 24) = _
    unfold b_X7_pagesOf_4
    rw [li 24, if_pos (nI_le (Nat.le_refl 24) (by decide))]
  · show b_X7_pagesOf_4 z (nI s) _ (nI acc) (nI i) = _
    unfold b_X7_pagesOf_4
    have := (hw i hi).1
    rw [li 24, if_neg (nI_ge hi (by decide)), rA_n hi (by decide), bs, rA_n hi (by decide), bs, (h.2.1 i hi).1, (h.2.1 i hi).2.2.2, li 0, li 1, nI_add, nI_add, nI_add]
    by_cases e : clX X i = s
    · rw [if_pos (by rw [e]), if_pos e]
    · rw [if_neg (fun q => e ((nI_eq (by omega) (by omega)).mp q)), if_neg e]
theorem z_has (h : ZR z X) (hw : ZW X) {j : Nat} (hj : j < 24) : f_X7_has z (nI j) = some (if clX X j = 0 then 0 else 1) := by
  unfold f_X7_has
  have := (hw j hj).1
  rw [if_neg (nI_pos (by omega)), li 24, if_neg (nI_ge hj (by decide)), rA_n hj (by decide), bs, (h.2.1 j hj).1]
  by_cases e : clX X j = 0
  · rw [if_pos (by rw [e]; exact nI_le (Nat.le_refl 0) (by decide)), if_pos e]
  · rw [if_neg (nI_nle (by omega) (by omega)), if_neg e]
/-- a zone of a class that isn't full -/
def loB (X : Nat → Nat) (s j : Nat) : Bool := decide (clX X j = s) && decide (filX X j < slN s)
theorem loB_t {X : Nat → Nat} {s j : Nat} : loB X s j = true ↔ clX X j = s ∧ filX X j < slN s := by unfold loB; rw [Bool.and_eq_true, decide_eq_true_eq, decide_eq_true_eq]
theorem z_room (h : ZR z X) (hw : ZW X) {s j : Nat} (hs : s < 17) (hj : j < 24) : f_X7_hasRoom z (nI j) (nI s) = some (if loB X s j = true then 1 else 0) := by
  unfold f_X7_hasRoom
  have h1 := (hw j hj).1
  have h2 := fil_le X j
  have h3 := sl16 _ h1
  rw [rA_n hj (by decide), bs, rA_n hj (by decide), bs, rA_n hj (by decide), bs, (h.2.1 j hj).1, (h.2.1 j hj).2.2.1, (h.2.1 j hj).2.2.2]
  by_cases e : clX X j = s
  · rw [if_pos (by rw [e])]
    by_cases f : filX X j < slN (clX X j)
    · rw [if_neg (nI_ge f (by omega)), if_pos (loB_t.mpr ⟨e, by rw [← e]; exact f⟩)]
    · rw [if_pos (nI_le (by omega) (by omega)), if_neg (fun q => f (by rw [e]; exact (loB_t.mp q).2))]
  · rw [if_neg (fun q => e ((nI_eq (by omega) (by omega)).mp q)), if_neg (fun q => e (loB_t.mp q).1)]
end ZB
def itr {β : Type} (st : Nat → β → β) : Nat → Nat → β → β
  | 0, _, b => b
  | k + 1, z, b => itr st k (z + 1) (st z b)
theorem loop_it {R β : Type} {enc : β → Int32} {L : Nat → Int32 → Int32 → Option R} {fin : β → Option R} {st : Nat → β → β} {I : β → Prop} {m : Nat}
    (hx : ∀ n b, I b → L (n + 1) (enc b) (nI m) = fin b) (hs : ∀ n b z, z < m → I b → L (n + 1) (enc b) (nI z) = L n (enc (st z b)) (nI (z + 1)) ∧ I (st z b)) :
    ∀ (k z n : Nat) (b : β), z + k = m → k < n → I b → L n (enc b) (nI z) = fin (itr st k z b) ∧ I (itr st k z b) := by
  intro k
  induction k with
  | zero =>
    intro z n b h1 h2 hI
    cases n with
    | zero => omega
    | succ n =>
      have : z = m := by omega
      subst this
      exact ⟨hx n b hI, hI⟩
  | succ k ih =>
    intro z n b h1 h2 hI
    cases n with
    | zero => omega
    | succ n =>
      obtain ⟨e1, e2⟩ := hs n b z (by omega) hI
      rw [e1]
      exact ih (z + 1) n (st z b) (by omega) (by omega) e2
/-- of zones that aren't full: the one of most pages, of the fewest -/
def stF (X : Nat → Nat) (s : Nat) (but : Option Nat) (z : Nat) (b : Option Nat) : Option Nat := if but = some z then b else if loB X s z = true then (match b with
  | none => some z
  | some c => if filX X c < filX X z then some z else some c) else b
def stE (X : Nat → Nat) (s : Nat) (z : Nat) (b : Option Nat) : Option Nat := if loB X s z = true then (match b with
  | none => some z
  | some c => if filX X z ≤ filX X c then some z else some c) else b
def fulS (X : Nat → Nat) (s : Nat) (but : Option Nat) : Option Nat := itr (stF X s but) 24 0 none
def empS (X : Nat → Nat) (s : Nat) : Option Nat := itr (stE X s) 24 0 none
def oOk (b : Option Nat) : Prop := ∀ c, b = some c → c < 24
theorem stF_ok {X : Nat → Nat} {s : Nat} {but : Option Nat} {z : Nat} {b : Option Nat} (hz : z < 24) (hb : oOk b) : oOk (stF X s but z b) := by
  unfold stF
  split
  · exact hb
  · split
    · cases b with
      | none => intro c hc; cases hc; exact hz
      | some c0 =>
        dsimp only
        split
        · intro c hc; cases hc; exact hz
        · exact hb
    · exact hb
theorem stE_ok {X : Nat → Nat} {s : Nat} {z : Nat} {b : Option Nat} (hz : z < 24) (hb : oOk b) : oOk (stE X s z b) := by
  unfold stE
  split
  · cases b with
    | none => intro c hc; cases hc; exact hz
    | some c0 =>
      dsimp only
      split
      · intro c hc; cases hc; exact hz
      · exact hb
  · exact hb
theorem oI_eq {z : Nat} {o : Option Nat} (hz : z < 24) (ho : oOk o) : nI z = oI o ↔ o = some z := by
  cases o with
  | none => exact ⟨fun q => absurd q (nI_m1 (by omega)), fun q => by cases q⟩
  | some c =>
    have := ho c rfl
    exact ⟨fun q => by rw [(nI_eq (by omega) (by omega)).mp q], fun q => by cases q; rfl⟩
section ZC
variable {d z : Pic} {X : Nat → Nat}
theorem z_ful (h : ZR z X) (hw : ZW X) {s : Nat} (hs : s < 17) {but : Option Nat} (hb : oOk but) : f_X7_fullest z (nI s) (oI but) = some (oI (fulS X s but)) ∧ oOk (fulS X s but) := by
  refine loop_it (enc := oI) (L := L_X7_fullest_5 z (nI s) (oI but)) (fin := fun b => some (oI b)) (st := stF X s but) (I := oOk) (m := 24) (fun n b hI => ?_) (fun n b j hj hI => ⟨?_, stF_ok hj hI⟩) 24 0 FU none rfl (FU_ge (by omega)) (fun c hc => by cases hc)
  · show b_X7_fullest_5 z (nI s) (oI but) _ (oI b) (nI 24) = _
    unfold b_X7_fullest_5
    rw [li 24, if_pos (nI_le (Nat.le_refl 24) (by decide))]
  · show b_X7_fullest_5 z (nI s) (oI but) _ (oI b) (nI j) = _
    unfold b_X7_fullest_5 stF
    rw [li 24, if_neg (nI_ge hj (by decide)), nI_1]
    by_cases e : but = some j
    · rw [if_pos ((oI_eq hj hb).mpr e), if_pos e]
    · rw [if_neg (fun q => e ((oI_eq hj hb).mp q)), if_neg e, z_room h hw hs hj, bs]
      by_cases f : loB X s j = true
      · rw [if_pos f, if_pos f, if_neg (by decide)]
        cases b with
        | none => rw [if_pos (by decide)]; rfl
        | some c =>
          have hc := hI c rfl
          have h1 := fil_le X j
          have h2 := fil_le X c
          show (if nI c < 0 then _ else _) = _
          rw [if_neg (nI_pos (by omega)), rA_n hj (by decide), bs, (h.2.1 j hj).2.2.2]
          show ((rA z 4 24 (nI c)).bind fun v3_ => if nI (filX X j) ≤ v3_ then L_X7_fullest_5 z (nI s) (oI but) n (nI c) (nI (j + 1)) else L_X7_fullest_5 z (nI s) (oI but) n (nI j) (nI (j + 1))) = _
          rw [rA_n hc (by decide), bs, (h.2.1 c hc).2.2.2]
          dsimp only
          by_cases g : filX X c < filX X j
          · rw [if_neg (nI_ge g (by omega)), if_pos g]; rfl
          · rw [if_pos (nI_le (by omega) (by omega)), if_neg g]; rfl
      · rw [if_neg f, if_neg f, if_pos rfl]
theorem z_emp (h : ZR z X) (hw : ZW X) {s : Nat} (hs : s < 17) : f_X7_emptiest z (nI s) = some (oI (empS X s)) ∧ oOk (empS X s) := by
  refine loop_it (enc := oI) (L := L_X7_emptiest_4 z (nI s)) (fin := fun b => some (oI b)) (st := stE X s) (I := oOk) (m := 24) (fun n b hI => ?_) (fun n b j hj hI => ⟨?_, stE_ok hj hI⟩) 24 0 FU none rfl (FU_ge (by omega)) (fun c hc => by cases hc)
  · show b_X7_emptiest_4 z (nI s) _ (oI b) (nI 24) = _
    unfold b_X7_emptiest_4
    rw [li 24, if_pos (nI_le (Nat.le_refl 24) (by decide))]
  · show b_X7_emptiest_4 z (nI s) _ (oI b) (nI j) = _
    unfold b_X7_emptiest_4 stE
    rw [li 24, if_neg (nI_ge hj (by decide)), nI_1, z_room h hw hs hj, bs]
    by_cases f : loB X s j = true
    · rw [if_pos f, if_pos f, if_neg (by decide)]
      cases b with
      | none => rw [if_pos (by decide)]; rfl
      | some c =>
        have hc := hI c rfl
        have h1 := fil_le X j
        have h2 := fil_le X c
        show (if nI c < 0 then _ else _) = _
        rw [if_neg (nI_pos (by omega)), rA_n hj (by decide), bs, (h.2.1 j hj).2.2.2]
        show ((rA z 4 24 (nI c)).bind fun v3_ => if v3_ < nI (filX X j) then L_X7_emptiest_4 z (nI s) n (nI c) (nI (j + 1)) else L_X7_emptiest_4 z (nI s) n (nI j) (nI (j + 1))) = _
        rw [rA_n hc (by decide), bs, (h.2.1 c hc).2.2.2]
        dsimp only
        by_cases g : filX X j ≤ filX X c
        · rw [if_neg (nI_nlt g (by omega)), if_pos g]; rfl
        · rw [if_pos (nI_lt (by omega) (by omega)), if_neg g]; rfl
    · rw [if_neg f, if_neg f, if_pos rfl]
theorem m_loose (hw : ZW X) {s j : Nat} (hj : j < 24) (e : clX X j = s) : loB X s j = true ↔ ¬ filX X j = slN (clX X j) := by
  have := (hw j hj).2
  rw [loB_t]
  subst e
  exact ⟨fun q => by omega, fun q => ⟨rfl, by omega⟩⟩
theorem m_ful (h : MX d X) (hl : Sml X) (hw : ZW X) {s : Nat} (hs : s < 17) (h0 : 0 < s) {but : Option Nat} (hb : oOk but) : f_X9_fullestOf d (nI s) (oI but) = some (oI (fulS X s but)) ∧ oOk (fulS X s but) := by
  refine loop_it (enc := oI) (L := L_X9_fullestOf_5 d (nI s) (oI but)) (fin := fun b => some (oI b)) (st := stF X s but) (I := oOk) (m := 24) (fun n b hI => ?_) (fun n b j hj hI => ⟨?_, stF_ok hj hI⟩) 24 0 FU none rfl (FU_ge (by omega)) (fun c hc => by cases hc)
  · show b_X9_fullestOf_5 d (nI s) (oI but) _ (oI b) (nI 24) = _
    unfold b_X9_fullestOf_5
    rw [li 24, if_pos (nI_le (Nat.le_refl 24) (by decide))]
  · show b_X9_fullestOf_5 d (nI s) (oI but) _ (oI b) (nI j) = _
    unfold b_X9_fullestOf_5 stF
    have hcl := (hw j hj).1
    rw [li 24, if_neg (nI_ge hj (by decide)), nI_1]
    by_cases e : but = some j
    · rw [if_pos ((oI_eq hj hb).mpr e), if_pos e]
    · rw [if_neg (fun q => e ((oI_eq hj hb).mp q)), if_neg e, m_cl h hj, bs]
      by_cases k : clX X j = s
      · rw [if_pos (by rw [k]), m_full h hl hw hj (by omega), bs]
        have lo := m_loose hw hj k
        by_cases f : loB X s j = true
        · rw [if_neg (lo.mp f), if_pos rfl, if_pos f]
          cases b with
          | none => rw [if_pos (by decide)]; rfl
          | some c =>
            have hc := hI c rfl
            have h1 := fil_le X j
            have h2 := fil_le X c
            show (if nI c = -1 then _ else _) = _
            rw [if_neg (nI_m1 (by omega)), m_fil h hl hj, bs]
            show ((f_X9_fillOf d (nI c)).bind fun u4 => if nI (filX X j) ≤ u4 then L_X9_fullestOf_5 d (nI s) (oI but) n (nI c) (nI (j + 1)) else L_X9_fullestOf_5 d (nI s) (oI but) n (nI j) (nI (j + 1))) = _
            rw [m_fil h hl hc, bs]
            dsimp only
            by_cases g : filX X c < filX X j
            · rw [if_neg (nI_ge g (by omega)), if_pos g]; rfl
            · rw [if_pos (nI_le (by omega) (by omega)), if_neg g]; rfl
        · rw [if_neg f]
          have : filX X j = slN (clX X j) := Decidable.byContradiction (fun q => f (lo.mpr q))
          rw [if_pos this, if_neg (by decide)]
      · rw [if_neg (fun q => k ((nI_eq (by omega) (by omega)).mp q)), if_neg (fun q => k (loB_t.mp q).1)]
theorem m_emp (h : MX d X) (hl : Sml X) (hw : ZW X) {s : Nat} (hs : s < 17) (h0 : 0 < s) : f_X9_emptiestOf d (nI s) = some (oI (empS X s)) ∧ oOk (empS X s) := by
  refine loop_it (enc := oI) (L := L_X9_emptiestOf_4 d (nI s)) (fin := fun b => some (oI b)) (st := stE X s) (I := oOk) (m := 24) (fun n b hI => ?_) (fun n b j hj hI => ⟨?_, stE_ok hj hI⟩) 24 0 FU none rfl (FU_ge (by omega)) (fun c hc => by cases hc)
  · show b_X9_emptiestOf_4 d (nI s) _ (oI b) (nI 24) = _
    unfold b_X9_emptiestOf_4
    rw [li 24, if_pos (nI_le (Nat.le_refl 24) (by decide))]
  · show b_X9_emptiestOf_4 d (nI s) _ (oI b) (nI j) = _
    unfold b_X9_emptiestOf_4 stE
    have hcl := (hw j hj).1
    rw [li 24, if_neg (nI_ge hj (by decide)), nI_1, m_cl h hj, bs]
    by_cases k : clX X j = s
    · rw [if_pos (by rw [k]), m_full h hl hw hj (by omega), bs]
      have lo := m_loose hw hj k
      by_cases f : loB X s j = true
      · rw [if_neg (lo.mp f), if_pos rfl, if_pos f]
        cases b with
        | none => rw [if_pos (by decide)]; rfl
        | some c =>
          have hc := hI c rfl
          have h1 := fil_le X j
          have h2 := fil_le X c
          show (if nI c = -1 then _ else _) = _
          rw [if_neg (nI_m1 (by omega)), m_fil h hl hj, bs]
          show ((f_X9_fillOf d (nI c)).bind fun u4 => if u4 < nI (filX X j) then L_X9_emptiestOf_4 d (nI s) n (nI c) (nI (j + 1)) else L_X9_emptiestOf_4 d (nI s) n (nI j) (nI (j + 1))) = _
          rw [m_fil h hl hc, bs]
          dsimp only
          by_cases g : filX X j ≤ filX X c
          · rw [if_neg (nI_nlt g (by omega)), if_pos g]; rfl
          · rw [if_pos (nI_lt (by omega) (by omega)), if_neg g]; rfl
      · rw [if_neg f]
        have : filX X j = slN (clX X j) := Decidable.byContradiction (fun q => f (lo.mpr q))
        rw [if_pos this, if_neg (by decide)]
    · rw [if_neg (fun q => k ((nI_eq (by omega) (by omega)).mp q)), if_neg (fun q => k (loB_t.mp q).1)]
end ZC
