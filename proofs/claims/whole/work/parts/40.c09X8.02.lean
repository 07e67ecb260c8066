set_option maxHeartbeats 4000000 in
set_option maxRecDepth 100000 in
theorem c_X8_next (l : Launch) (G : GG) (am : Nat → Nat) (as_ : Nat → Nat) (ar : Nat → Nat) (ac : Nat → Nat) (an : Nat → Nat) (ath : Nat → Nat) (ah : Nat → Nat) (sz : Nat) (m_am : Pic) (t_an : Pic) (p_an : Pic) (z_an : Pic) (x1 : Int32) (out : Int32 × Pic) (hf : f_X8_next m_am t_an p_an z_an x1 = some out) : Met l yX8_next (.code yX8_next cX8_next 2 (some .int) :: BT) ({ frames := 3, cells := 0, slots := 0, locals := 68 }) (va_Pc [.ref (am 99), .int x1] (PreW G sz (mO G am as_ ar ac an ath ah m_am ++ (tO G an t_an ++ (pO G an p_an ++ (zO G an z_an ++ [])))))) (Ans G out.1 (va_A (mO G am as_ ar ac an ath ah m_am ++ (tO G an t_an ++ (pO G an p_an ++ (zO G an z_an ++ [])))) sz) (mO G am as_ ar ac an ath ah out.2 ++ (tO G an t_an ++ (pO G an p_an ++ (zO G an z_an ++ []))))) 0 0 (va_A (mO G am as_ ar ac an ath ah m_am ++ (tO G an t_an ++ (pO G an p_an ++ (zO G an z_an ++ [])))) sz) := by
  refine Met.into (by decide) (Nat.le_of_ble_eq_true rfl) ?_
  intro p e s m below meth c C hsz ls hl hw
  have hl : lv_has ls 2 [(0, .ref (am 99)), (1, .int x1)] := hl
  clear hsz
  generalize va_A (mO G am as_ ar ac an ath ah m_am ++ (tO G an t_an ++ (pO G an p_an ++ (zO G an z_an ++ [])))) sz = A at hw ⊢
  unfold f_X8_next at hf
  refine r_aload0 C hl 0 rfl dX8_next_0 ?_
  refine r_get C hw _ (gx_h mO_o) 2 fl_X8_85 rfl dX8_next_1 ?_
  refine lv_if_ne (tgt := 13) C.1 C.2.1 dX8_next_4 (by decide) (fun hc => ?_) (fun hc => ?_)
  · replace hf := ifn hf hc
    refine r_iload0 C hl 1 rfl dX8_next_13 ?_
    obtain ⟨u1, e1, hf⟩ := bx hf
    refine r_callSi (ws' := (mO G am as_ ar ac an ath ah m_am ++ (tO G an t_an ++ (pO G an p_an ++ (zO G an z_an ++ []))))) (As := [.int x1]) (rest := []) C hw hl.1 kX8_noSize ml_X8_188 (c_X8_noSize l G _ x1 u1 e1) CutX.none ⟨rfl, rfl⟩ ⟨Nat.le_of_ble_eq_true rfl, Nat.le_of_ble_eq_true rfl⟩ rfl ⟨Nat.zero_le _, Nat.zero_le _⟩ rfl (Nat.le_of_ble_eq_true rfl) dX8_next_14 (fun H locs hw => ?_)
    refine lv_if_eq (tgt := 26) C.1 C.2.1 dX8_next_17 (by decide) (fun hc => ?_) (fun hc => ?_)
    · replace hf := ifp hf hc
      refine r_aload0 C hl 0 rfl dX8_next_26 ?_
      refine r_aload0 C hl 0 rfl dX8_next_27 ?_
      refine r_get C hw _ (gx_h mO_o) 9 fl_X8_37 rfl dX8_next_28 ?_
      refine r_get C hw _ (gx_t (gx_h tO_o)) 2 fl_X8_105 rfl dX8_next_31 ?_
      refine r_iload0 C hl 1 rfl dX8_next_34 ?_
      refine r_aload0 C hl 0 rfl dX8_next_35 ?_
      refine r_get C hw _ (gx_h mO_o) 9 fl_X8_37 rfl dX8_next_36 ?_
      refine r_get C hw _ (gx_t (gx_h tO_o)) 2 fl_X8_105 rfl dX8_next_39 ?_
      refine r_get C hw _ (gx_t (gx_t (gx_h pO_o))) 1 fl_X8_111 rfl dX8_next_42 ?_
      obtain ⟨u2, e2, hf⟩ := bx hf
      refine r_callSi (ws' := (mO G am as_ ar ac an ath ah m_am ++ (tO G an t_an ++ (pO G an p_an ++ (zO G an z_an ++ []))))) (As := [.int x1, .int (gS p_an 1)]) (rest := [.ref (an 99), .ref (am 99)]) C hw hl.1 kX0_homeOf ml_X8_191 (c_X0_homeOf l G _ x1 (gS p_an 1) u2 e2) CutX.none ⟨rfl, rfl⟩ ⟨Nat.le_of_ble_eq_true rfl, Nat.le_of_ble_eq_true rfl⟩ rfl ⟨Nat.zero_le _, Nat.zero_le _⟩ rfl (Nat.le_of_ble_eq_true rfl) dX8_next_45 (fun H locs hw => ?_)
      obtain ⟨u3, e3, hf⟩ := bx hf
      refine r_callVi (ws' := (mO G am as_ ar ac an ath ah m_am ++ (tO G an t_an ++ (pO G an p_an ++ (zO G an z_an ++ []))))) (As := [.int u2]) (rest := [.ref (am 99)]) C hw hl.1 kX3_zoneFor ml_X8_222 (c_X3_zoneFor l G an _ p_an z_an u2 u3 e3) (CutX.skip (CutX.skip (CutX.take pO_f (CutX.take zO_f CutX.none)))) _ (gx_t (gx_t (gx_h pO_o))) rfl ⟨rfl, rfl⟩ ⟨Nat.le_of_ble_eq_true rfl, Nat.le_of_ble_eq_true rfl⟩ rfl ⟨Nat.zero_le _, Nat.zero_le _⟩ rfl (Nat.le_of_ble_eq_true rfl) dX8_next_48 (fun H locs hw => ?_)
      obtain ⟨u4, e4, hf⟩ := bx hf
      refine r_callVi (ws' := (mO G am as_ ar ac an ath ah u4.2 ++ (tO G an t_an ++ (pO G an p_an ++ (zO G an z_an ++ []))))) (As := [.int u3]) (rest := []) C hw hl.1 kX8_answer ml_X8_99 (c_X8_answer l G am as_ ar ac an ath ah _ m_am u3 u4 e4) (CutX.take mO_f CutX.none) _ (gx_h mO_o) rfl ⟨rfl, rfl⟩ ⟨Nat.le_of_ble_eq_true rfl, Nat.le_of_ble_eq_true rfl⟩ rfl ⟨Nat.zero_le _, Nat.zero_le _⟩ rfl (Nat.le_of_ble_eq_true rfl) dX8_next_51 (fun H locs hw => ?_)
      exact fin_i C hw (Option.some.inj hf) (fun o => o.1) (fun o => (mO G am as_ ar ac an ath ah o.2 ++ (tO G an t_an ++ (pO G an p_an ++ (zO G an z_an ++ []))))) rfl rfl dX8_next_54
    · replace hf := ifn hf hc
      refine r_aload0 C hl 0 rfl dX8_next_20 ?_
      refine lv_iconst (v := 2) C.1 C.2.1 dX8_next_21 (by decide) ?_
      obtain ⟨u5, e5, hf⟩ := bx hf
      refine r_callVi (ws' := (mO G am as_ ar ac an ath ah u5.2 ++ (tO G an t_an ++ (pO G an p_an ++ (zO G an z_an ++ []))))) (As := [.int 2]) (rest := []) C hw hl.1 kX8_refuse ml_X8_63 (c_X8_refuse l G am as_ ar ac an ath ah _ m_am 2 u5 e5) (CutX.take mO_f CutX.none) _ (gx_h mO_o) rfl ⟨rfl, rfl⟩ ⟨Nat.le_of_ble_eq_true rfl, Nat.le_of_ble_eq_true rfl⟩ rfl ⟨Nat.zero_le _, Nat.zero_le _⟩ rfl (Nat.le_of_ble_eq_true rfl) dX8_next_22 (fun H locs hw => ?_)
      exact fin_i C hw (Option.some.inj hf) (fun o => o.1) (fun o => (mO G am as_ ar ac an ath ah o.2 ++ (tO G an t_an ++ (pO G an p_an ++ (zO G an z_an ++ []))))) rfl rfl dX8_next_25
  · replace hf := ifp hf hc
    refine r_aload0 C hl 0 rfl dX8_next_7 ?_
    refine lv_iconst (v := 1) C.1 C.2.1 dX8_next_8 (by decide) ?_
    obtain ⟨u6, e6, hf⟩ := bx hf
    refine r_callVi (ws' := (mO G am as_ ar ac an ath ah u6.2 ++ (tO G an t_an ++ (pO G an p_an ++ (zO G an z_an ++ []))))) (As := [.int 1]) (rest := []) C hw hl.1 kX8_refuse ml_X8_63 (c_X8_refuse l G am as_ ar ac an ath ah _ m_am 1 u6 e6) (CutX.take mO_f CutX.none) _ (gx_h mO_o) rfl ⟨rfl, rfl⟩ ⟨Nat.le_of_ble_eq_true rfl, Nat.le_of_ble_eq_true rfl⟩ rfl ⟨Nat.zero_le _, Nat.zero_le _⟩ rfl (Nat.le_of_ble_eq_true rfl) dX8_next_9 (fun H locs hw => ?_)
    exact fin_i C hw (Option.some.inj hf) (fun o => o.1) (fun o => (mO G am as_ ar ac an ath ah o.2 ++ (tO G an t_an ++ (pO G an p_an ++ (zO G an z_an ++ []))))) rfl rfl dX8_next_12
set_option maxHeartbeats 4000000 in
set_option maxRecDepth 100000 in
theorem c_X8_coldest (l : Launch) (G : GG) (am : Nat → Nat) (as_ : Nat → Nat) (ar : Nat → Nat) (ac : Nat → Nat) (an : Nat → Nat) (ath : Nat → Nat) (ah : Nat → Nat) (sz : Nat) (m_am : Pic) (t_an : Pic) (p_an : Pic) (x1 : Int32) (out : Int32 × Pic) (hf : f_X8_coldest m_am t_an p_an x1 = some out) : Met l yX8_coldest (.code yX8_coldest cX8_coldest 2 (some .int) :: BT) ({ frames := 3, cells := 0, slots := 0, locals := 63 }) (va_Pc [.ref (am 99), .int x1] (PreW G sz (mO G am as_ ar ac an ath ah m_am ++ (tO G an t_an ++ (pO G an p_an ++ []))))) (Ans G out.1 (va_A (mO G am as_ ar ac an ath ah m_am ++ (tO G an t_an ++ (pO G an p_an ++ []))) sz) (mO G am as_ ar ac an ath ah out.2 ++ (tO G an t_an ++ (pO G an p_an ++ [])))) 0 0 (va_A (mO G am as_ ar ac an ath ah m_am ++ (tO G an t_an ++ (pO G an p_an ++ []))) sz) := by
  refine Met.into (by decide) (Nat.le_of_ble_eq_true rfl) ?_
  intro p e s m below meth c C hsz ls hl hw
  have hl : lv_has ls 2 [(0, .ref (am 99)), (1, .int x1)] := hl
  clear hsz
  generalize va_A (mO G am as_ ar ac an ath ah m_am ++ (tO G an t_an ++ (pO G an p_an ++ []))) sz = A at hw ⊢
  unfold f_X8_coldest at hf
  refine r_aload0 C hl 0 rfl dX8_coldest_0 ?_
  refine r_iload0 C hl 1 rfl dX8_coldest_1 ?_
  obtain ⟨u1, e1, hf⟩ := bx hf
  refine r_callVi (ws' := (mO G am as_ ar ac an ath ah m_am ++ (tO G an t_an ++ (pO G an p_an ++ [])))) (As := [.int x1]) (rest := []) C hw hl.1 kX8_noClass ml_X8_197 (c_X8_noClass l G am as_ ar ac an ath ah _ m_am t_an p_an x1 u1 e1) (CutX.take mO_f (CutX.take tO_f (CutX.take pO_f CutX.none))) _ (gx_h mO_o) rfl ⟨rfl, rfl⟩ ⟨Nat.le_of_ble_eq_true rfl, Nat.le_of_ble_eq_true rfl⟩ rfl ⟨Nat.zero_le _, Nat.zero_le _⟩ rfl (Nat.le_of_ble_eq_true rfl) dX8_coldest_2 (fun H locs hw => ?_)
  refine lv_if_eq (tgt := 14) C.1 C.2.1 dX8_coldest_5 (by decide) (fun hc => ?_) (fun hc => ?_)
  · replace hf := ifp hf hc
    refine r_aload0 C hl 0 rfl dX8_coldest_14 ?_
    refine r_aload0 C hl 0 rfl dX8_coldest_15 ?_
    refine r_get C hw _ (gx_h mO_o) 9 fl_X8_37 rfl dX8_coldest_16 ?_
    refine r_get C hw _ (gx_t (gx_h tO_o)) 2 fl_X8_105 rfl dX8_coldest_19 ?_
    refine r_iload0 C hl 1 rfl dX8_coldest_22 ?_
    obtain ⟨u2, e2, hf⟩ := bx hf
    refine r_callVi (ws' := (mO G am as_ ar ac an ath ah m_am ++ (tO G an t_an ++ (pO G an p_an ++ [])))) (As := [.int x1]) (rest := [.ref (am 99)]) C hw hl.1 kX3_coldestOf ml_X8_225 (c_X3_coldestOf l G an _ p_an x1 u2 e2) (CutX.skip (CutX.skip (CutX.take pO_f CutX.none))) _ (gx_t (gx_t (gx_h pO_o))) rfl ⟨rfl, rfl⟩ ⟨Nat.le_of_ble_eq_true rfl, Nat.le_of_ble_eq_true rfl⟩ rfl ⟨Nat.zero_le _, Nat.zero_le _⟩ rfl (Nat.le_of_ble_eq_true rfl) dX8_coldest_23 (fun H locs hw => ?_)
    obtain ⟨u3, e3, hf⟩ := bx hf
    refine r_callVi (ws' := (mO G am as_ ar ac an ath ah u3.2 ++ (tO G an t_an ++ (pO G an p_an ++ [])))) (As := [.int u2]) (rest := []) C hw hl.1 kX8_answer ml_X8_99 (c_X8_answer l G am as_ ar ac an ath ah _ m_am u2 u3 e3) (CutX.take mO_f CutX.none) _ (gx_h mO_o) rfl ⟨rfl, rfl⟩ ⟨Nat.le_of_ble_eq_true rfl, Nat.le_of_ble_eq_true rfl⟩ rfl ⟨Nat.zero_le _, Nat.zero_le _⟩ rfl (Nat.le_of_ble_eq_true rfl) dX8_coldest_26 (fun H locs hw => ?_)
    exact fin_i C hw (Option.some.inj hf) (fun o => o.1) (fun o => (mO G am as_ ar ac an ath ah o.2 ++ (tO G an t_an ++ (pO G an p_an ++ [])))) rfl rfl dX8_coldest_29
  · replace hf := ifn hf hc
    refine r_aload0 C hl 0 rfl dX8_coldest_8 ?_
    refine lv_iconst (v := 1) C.1 C.2.1 dX8_coldest_9 (by decide) ?_
    obtain ⟨u4, e4, hf⟩ := bx hf
    refine r_callVi (ws' := (mO G am as_ ar ac an ath ah u4.2 ++ (tO G an t_an ++ (pO G an p_an ++ [])))) (As := [.int 1]) (rest := []) C hw hl.1 kX8_refuse ml_X8_63 (c_X8_refuse l G am as_ ar ac an ath ah _ m_am 1 u4 e4) (CutX.take mO_f CutX.none) _ (gx_h mO_o) rfl ⟨rfl, rfl⟩ ⟨Nat.le_of_ble_eq_true rfl, Nat.le_of_ble_eq_true rfl⟩ rfl ⟨Nat.zero_le _, Nat.zero_le _⟩ rfl (Nat.le_of_ble_eq_true rfl) dX8_coldest_10 (fun H locs hw => ?_)
    exact fin_i C hw (Option.some.inj hf) (fun o => o.1) (fun o => (mO G am as_ ar ac an ath ah o.2 ++ (tO G an t_an ++ (pO G an p_an ++ [])))) rfl rfl dX8_coldest_13
set_option maxHeartbeats 4000000 in
set_option maxRecDepth 100000 in
theorem c_X8_fittest (l : Launch) (G : GG) (am : Nat → Nat) (as_ : Nat → Nat) (ar : Nat → Nat) (ac : Nat → Nat) (an : Nat → Nat) (ath : Nat → Nat) (ah : Nat → Nat) (sz : Nat) (m_am : Pic) (t_an : Pic) (p_an : Pic)  (out : Int32 × Pic) (hf : f_X8_fittest m_am t_an p_an = some out) : Met l yX8_fittest (.code yX8_fittest cX8_fittest 3 (some .int) :: BT) ({ frames := 3, cells := 0, slots := 0, locals := 69 }) (va_Pc [.ref (am 99)] (PreW G sz (mO G am as_ ar ac an ath ah m_am ++ (tO G an t_an ++ (pO G an p_an ++ []))))) (Ans G out.1 (va_A (mO G am as_ ar ac an ath ah m_am ++ (tO G an t_an ++ (pO G an p_an ++ []))) sz) (mO G am as_ ar ac an ath ah out.2 ++ (tO G an t_an ++ (pO G an p_an ++ [])))) 0 0 (va_A (mO G am as_ ar ac an ath ah m_am ++ (tO G an t_an ++ (pO G an p_an ++ []))) sz) := by
  refine Met.into (by decide) (Nat.le_of_ble_eq_true rfl) ?_
  intro p e s m below meth c C hsz ls hl hw
  have hl : lv_has ls 3 [(0, .ref (am 99))] := hl
  clear hsz
  generalize va_A (mO G am as_ ar ac an ath ah m_am ++ (tO G an t_an ++ (pO G an p_an ++ []))) sz = A at hw ⊢
  have hB_17 : ∀ (k17 : Pic → Int32 → Int32 → Option (Int32 × Pic)) (hk17 : ∀ (m_am : Pic) (v1 : Int32) (v2 : Int32), k17 m_am v1 v2 = some out → ∀ (H : Heap) (locs : List Loc), Wd G A s H locs (mO G am as_ ar ac an ath ah m_am ++ (tO G an t_an ++ (pO G an p_an ++ []))) → ∀ ls : Array Slot, lv_has ls 3 [(0, .ref (am 99)), (1, .int v1), (2, .int v2)] → W p l e ({ frames := 3, cells := 0, slots := 0, locals := 69 }) s m [.ref (am 99)].toArray below meth c H locs 0 0 (MQ below (Ans G out.1 A (mO G am as_ ar ac an ath ah out.2 ++ (tO G an t_an ++ (pO G an p_an ++ [])))) [.ref (am 99)].toArray s 0 0 A) (F0 m 17 ls [])), ∀ (m_am : Pic) (v1 : Int32) (v2 : Int32), b_X8_fittest_17 t_an p_an k17 m_am v1 v2 = some out → ∀ (H : Heap) (locs : List Loc), Wd G A s H locs (mO G am as_ ar ac an ath ah m_am ++ (tO G an t_an ++ (pO G an p_an ++ []))) → ∀ ls : Array Slot, lv_has ls 3 [(0, .ref (am 99)), (1, .int v1), (2, .int v2)] → W p l e ({ frames := 3, cells := 0, slots := 0, locals := 69 }) s m [.ref (am 99)].toArray below meth c H locs 0 0 (MQ below (Ans G out.1 A (mO G am as_ ar ac an ath ah out.2 ++ (tO G an t_an ++ (pO G an p_an ++ [])))) [.ref (am 99)].toArray s 0 0 A) (F0 m 17 ls []) := by
    intro k17 hk17 m_am v1 v2 hf H locs hw ls hl
    unfold b_X8_fittest_17 at hf
    refine r_iload0 C hl 2 rfl dX8_fittest_17 ?_
    refine lv_iconst (v := 4) C.1 C.2.1 dX8_fittest_18 (by decide) ?_
    refine lv_icmp_gt (tgt := 55) C.1 C.2.1 dX8_fittest_19 (by decide) (fun hc => ?_) (fun hc => ?_)
    · replace hf := ifp hf hc
      refine r_aload0 C hl 0 rfl dX8_fittest_55 ?_
      refine r_iload0 C hl 1 rfl dX8_fittest_56 ?_
      obtain ⟨u1, e1, hf⟩ := bx hf
      refine r_callVi (ws' := (mO G am as_ ar ac an ath ah u1.2 ++ (tO G an t_an ++ (pO G an p_an ++ [])))) (As := [.int v1]) (rest := []) C hw hl.1 kX8_answer ml_X8_99 (c_X8_answer l G am as_ ar ac an ath ah _ m_am v1 u1 e1) (CutX.take mO_f CutX.none) _ (gx_h mO_o) rfl ⟨rfl, rfl⟩ ⟨Nat.le_of_ble_eq_true rfl, Nat.le_of_ble_eq_true rfl⟩ rfl ⟨Nat.zero_le _, Nat.zero_le _⟩ rfl (Nat.le_of_ble_eq_true rfl) dX8_fittest_57 (fun H locs hw => ?_)
      exact fin_i C hw (Option.some.inj hf) (fun o => o.1) (fun o => (mO G am as_ ar ac an ath ah o.2 ++ (tO G an t_an ++ (pO G an p_an ++ [])))) rfl rfl dX8_fittest_60
    · replace hf := ifn hf hc
      refine r_aload0 C hl 0 rfl dX8_fittest_22 ?_
      refine r_get C hw _ (gx_h mO_o) 9 fl_X8_37 rfl dX8_fittest_23 ?_
      refine r_get C hw _ (gx_t (gx_h tO_o)) 2 fl_X8_105 rfl dX8_fittest_26 ?_
      refine r_iload0 C hl 2 rfl dX8_fittest_29 ?_
      obtain ⟨u2, e2, hf⟩ := bx hf
      refine r_callVi (ws' := (mO G am as_ ar ac an ath ah m_am ++ (tO G an t_an ++ (pO G an p_an ++ [])))) (As := [.int v2]) (rest := []) C hw hl.1 kX3_framesBy ml_X8_228 (c_X3_framesBy l G an _ p_an v2 u2 e2) (CutX.skip (CutX.skip (CutX.take pO_f CutX.none))) _ (gx_t (gx_t (gx_h pO_o))) rfl ⟨rfl, rfl⟩ ⟨Nat.le_of_ble_eq_true rfl, Nat.le_of_ble_eq_true rfl⟩ rfl ⟨Nat.zero_le _, Nat.zero_le _⟩ rfl (Nat.le_of_ble_eq_true rfl) dX8_fittest_30 (fun H locs hw => ?_)
      refine r_aload0 C hl 0 rfl dX8_fittest_33 ?_
      refine r_get C hw _ (gx_h mO_o) 9 fl_X8_37 rfl dX8_fittest_34 ?_
      refine r_get C hw _ (gx_t (gx_h tO_o)) 2 fl_X8_105 rfl dX8_fittest_37 ?_
      refine r_iload0 C hl 1 rfl dX8_fittest_40 ?_
      obtain ⟨u3, e3, hf⟩ := bx hf
      refine r_callVi (ws' := (mO G am as_ ar ac an ath ah m_am ++ (tO G an t_an ++ (pO G an p_an ++ [])))) (As := [.int v1]) (rest := [.int u2]) C hw hl.1 kX3_framesBy ml_X8_228 (c_X3_framesBy l G an _ p_an v1 u3 e3) (CutX.skip (CutX.skip (CutX.take pO_f CutX.none))) _ (gx_t (gx_t (gx_h pO_o))) rfl ⟨rfl, rfl⟩ ⟨Nat.le_of_ble_eq_true rfl, Nat.le_of_ble_eq_true rfl⟩ rfl ⟨Nat.zero_le _, Nat.zero_le _⟩ rfl (Nat.le_of_ble_eq_true rfl) dX8_fittest_41 (fun H locs hw => ?_)
      refine lv_icmp_ge (tgt := 49) C.1 C.2.1 dX8_fittest_44 (by decide) (fun hc => ?_) (fun hc => ?_)
      · replace hf := ifp hf hc
        refine r_iinc C hl 2 (v2 + 1) [(2, .int (v2 + 1)), (0, .ref (am 99)), (1, .int v1)] rfl (iinc_e (by decide)) (by decide) rfl dX8_fittest_49 (fun ls hl => ?_)
        refine lv_goto (tgt := 17) C.1 C.2.1 dX8_fittest_52 (by decide) ?_
        exact hk17 m_am v1 (v2 + 1) hf _ _ hw _ (lv_sub hl [1, 2, 0] rfl)
      · replace hf := ifn hf hc
        refine r_iload0 C hl 2 rfl dX8_fittest_47 ?_
        refine r_istore0 C hl [(1, .int v2), (0, .ref (am 99)), (2, .int v2)] (by decide) rfl dX8_fittest_48 (fun ls hl => ?_)
        refine r_iinc C hl 2 (v2 + 1) [(2, .int (v2 + 1)), (1, .int v2), (0, .ref (am 99))] rfl (iinc_e (by decide)) (by decide) rfl dX8_fittest_49 (fun ls hl => ?_)
        refine lv_goto (tgt := 17) C.1 C.2.1 dX8_fittest_52 (by decide) ?_
        exact hk17 m_am v2 (v2 + 1) hf _ _ hw _ (lv_sub hl [2, 1, 0] rfl)
  have hL_17 : ∀ n : Nat, ∀ (m_am : Pic) (v1 : Int32) (v2 : Int32), L_X8_fittest_17 t_an p_an  n m_am v1 v2 = some out → ∀ (H : Heap) (locs : List Loc), Wd G A s H locs (mO G am as_ ar ac an ath ah m_am ++ (tO G an t_an ++ (pO G an p_an ++ []))) → ∀ ls : Array Slot, lv_has ls 3 [(0, .ref (am 99)), (1, .int v1), (2, .int v2)] → W p l e ({ frames := 3, cells := 0, slots := 0, locals := 69 }) s m [.ref (am 99)].toArray below meth c H locs 0 0 (MQ below (Ans G out.1 A (mO G am as_ ar ac an ath ah out.2 ++ (tO G an t_an ++ (pO G an p_an ++ [])))) [.ref (am 99)].toArray s 0 0 A) (F0 m 17 ls []) := by
    intro  n
    induction n with
    | zero => intro m_am v1 v2 hf; cases hf
    | succ n ih => exact hB_17 _ ih
  unfold f_X8_fittest at hf
  refine r_aload0 C hl 0 rfl dX8_fittest_0 ?_
  refine r_get C hw _ (gx_h mO_o) 2 fl_X8_85 rfl dX8_fittest_1 ?_
  refine lv_if_ne (tgt := 13) C.1 C.2.1 dX8_fittest_4 (by decide) (fun hc => ?_) (fun hc => ?_)
  · replace hf := ifn hf hc
    refine lv_iconst (v := 1) C.1 C.2.1 dX8_fittest_13 (by decide) ?_
    refine r_istore0 C hl [(1, .int 1), (0, .ref (am 99))] (by decide) rfl dX8_fittest_14 (fun ls hl => ?_)
    refine lv_iconst (v := 2) C.1 C.2.1 dX8_fittest_15 (by decide) ?_
    refine r_istore0 C hl [(2, .int 2), (1, .int 1), (0, .ref (am 99))] (by decide) rfl dX8_fittest_16 (fun ls hl => ?_)
    exact hL_17  FU m_am 1 2 hf _ _ hw _ (lv_sub hl [2, 1, 0] rfl)
  · replace hf := ifp hf hc
    refine r_aload0 C hl 0 rfl dX8_fittest_7 ?_
    refine lv_iconst (v := 1) C.1 C.2.1 dX8_fittest_8 (by decide) ?_
    obtain ⟨u4, e4, hf⟩ := bx hf
    refine r_callVi (ws' := (mO G am as_ ar ac an ath ah u4.2 ++ (tO G an t_an ++ (pO G an p_an ++ [])))) (As := [.int 1]) (rest := []) C hw hl.1 kX8_refuse ml_X8_63 (c_X8_refuse l G am as_ ar ac an ath ah _ m_am 1 u4 e4) (CutX.take mO_f CutX.none) _ (gx_h mO_o) rfl ⟨rfl, rfl⟩ ⟨Nat.le_of_ble_eq_true rfl, Nat.le_of_ble_eq_true rfl⟩ rfl ⟨Nat.zero_le _, Nat.zero_le _⟩ rfl (Nat.le_of_ble_eq_true rfl) dX8_fittest_9 (fun H locs hw => ?_)
    exact fin_i C hw (Option.some.inj hf) (fun o => o.1) (fun o => (mO G am as_ ar ac an ath ah o.2 ++ (tO G an t_an ++ (pO G an p_an ++ [])))) rfl rfl dX8_fittest_12
set_option maxHeartbeats 4000000 in
set_option maxRecDepth 100000 in
theorem c_X8_zone (l : Launch) (G : GG) (am : Nat → Nat) (as_ : Nat → Nat) (ar : Nat → Nat) (ac : Nat → Nat) (an : Nat → Nat) (ath : Nat → Nat) (ah : Nat → Nat) (sz : Nat) (m_am : Pic) (t_an : Pic) (p_an : Pic) (z_an : Pic) (x1 : Int32) (x2 : Int32) (out : Int32 × Pic) (hf : f_X8_zone m_am t_an p_an z_an x1 x2 = some out) : Met l yX8_zone (.code yX8_zone cX8_zone 4 (some .int) :: BT) ({ frames := 2, cells := 0, slots := 0, locals := 42 }) (va_Pc [.ref (am 99), .int x1, .int x2] (PreW G sz (mO G am as_ ar ac an ath ah m_am ++ (tO G an t_an ++ (pO G an p_an ++ (zO G an z_an ++ [])))))) (Ans G out.1 (va_A (mO G am as_ ar ac an ath ah m_am ++ (tO G an t_an ++ (pO G an p_an ++ (zO G an z_an ++ [])))) sz) (mO G am as_ ar ac an ath ah out.2 ++ (tO G an t_an ++ (pO G an p_an ++ (zO G an z_an ++ []))))) 0 0 (va_A (mO G am as_ ar ac an ath ah m_am ++ (tO G an t_an ++ (pO G an p_an ++ (zO G an z_an ++ [])))) sz) := by
  refine Met.into (by decide) (Nat.le_of_ble_eq_true rfl) ?_
  intro p e s m below meth c C hsz ls hl hw
  have hl : lv_has ls 4 [(0, .ref (am 99)), (1, .int x1), (2, .int x2)] := hl
  clear hsz
  generalize va_A (mO G am as_ ar ac an ath ah m_am ++ (tO G an t_an ++ (pO G an p_an ++ (zO G an z_an ++ [])))) sz = A at hw ⊢
  unfold f_X8_zone at hf
  refine r_aload0 C hl 0 rfl dX8_zone_0 ?_
  refine r_iload0 C hl 1 rfl dX8_zone_1 ?_
  obtain ⟨u1, e1, hf⟩ := bx hf
  refine r_callVi (ws' := (mO G am as_ ar ac an ath ah m_am ++ (tO G an t_an ++ (pO G an p_an ++ (zO G an z_an ++ []))))) (As := [.int x1]) (rest := []) C hw hl.1 kX8_noZone ml_X8_231 (c_X8_noZone l G am as_ ar ac an ath ah _ m_am t_an p_an z_an x1 u1 e1) (CutX.take mO_f (CutX.take tO_f (CutX.take pO_f (CutX.take zO_f CutX.none)))) _ (gx_h mO_o) rfl ⟨rfl, rfl⟩ ⟨Nat.le_of_ble_eq_true rfl, Nat.le_of_ble_eq_true rfl⟩ rfl ⟨Nat.zero_le _, Nat.zero_le _⟩ rfl (Nat.le_of_ble_eq_true rfl) dX8_zone_2 (fun H locs hw => ?_)
  refine lv_if_eq (tgt := 14) C.1 C.2.1 dX8_zone_5 (by decide) (fun hc => ?_) (fun hc => ?_)
  · replace hf := ifp hf hc
    refine r_aload0 C hl 0 rfl dX8_zone_14 ?_
    refine r_get C hw _ (gx_h mO_o) 9 fl_X8_37 rfl dX8_zone_15 ?_
    refine r_get C hw _ (gx_t (gx_h tO_o)) 2 fl_X8_105 rfl dX8_zone_18 ?_
    refine r_get C hw _ (gx_t (gx_t (gx_h pO_o))) 3 fl_X8_120 rfl dX8_zone_21 ?_
    refine r_astore0 C hl [(3, .ref (an 199)), (0, .ref (am 99)), (1, .int x1), (2, .int x2)] (by decide) rfl dX8_zone_24 (fun ls hl => ?_)
    refine r_iload0 C hl 3 rfl dX8_zone_25 ?_
    rcases Decidable.em (x2 = 0) with hc | h0_
    · replace hf := ifp hf hc
      refine lv_tableIn (tgt := 52) C.1 C.2.1 dX8_zone_26 (by rw [hc]; decide) (by rw [hc]; decide) (by rw [hc]; rfl) (by decide) ?_
      refine r_aload0 C hl 1 rfl dX8_zone_52 ?_
      refine r_aload0 C hl 0 rfl dX8_zone_53 ?_
      refine r_get C hw _ (gx_t (gx_t (gx_t (gx_h zO_o)))) 1 fl_X8_234 rfl dX8_zone_54 ?_
      refine r_iload0 C hl 2 rfl dX8_zone_57 ?_
      obtain ⟨v7_, e7, hf⟩ := bx hf
      refine r_iald C hw _ (gx_t (gx_t (gx_t (gx_h zO_g1)))) e7 dX8_zone_58 ?_
      obtain ⟨u8, e8, hf⟩ := bx hf
      refine r_callVi (ws' := (mO G am as_ ar ac an ath ah u8.2 ++ (tO G an t_an ++ (pO G an p_an ++ (zO G an z_an ++ []))))) (As := [.int v7_]) (rest := []) C hw hl.1 kX8_answer ml_X8_99 (c_X8_answer l G am as_ ar ac an ath ah _ m_am v7_ u8 e8) (CutX.take mO_f CutX.none) _ (gx_h mO_o) rfl ⟨rfl, rfl⟩ ⟨Nat.le_of_ble_eq_true rfl, Nat.le_of_ble_eq_true rfl⟩ rfl ⟨Nat.zero_le _, Nat.zero_le _⟩ rfl (Nat.le_of_ble_eq_true rfl) dX8_zone_59 (fun H locs hw => ?_)
      exact fin_i C hw (Option.some.inj hf) (fun o => o.1) (fun o => (mO G am as_ ar ac an ath ah o.2 ++ (tO G an t_an ++ (pO G an p_an ++ (zO G an z_an ++ []))))) rfl rfl dX8_zone_62
    replace hf := ifn hf h0_
    rcases Decidable.em (x2 = 1) with hc | h1_
    · replace hf := ifp hf hc
      refine lv_tableIn (tgt := 63) C.1 C.2.1 dX8_zone_26 (by rw [hc]; decide) (by rw [hc]; decide) (by rw [hc]; rfl) (by decide) ?_
      refine r_aload0 C hl 1 rfl dX8_zone_63 ?_
      refine r_aload0 C hl 0 rfl dX8_zone_64 ?_
      refine r_get C hw _ (gx_t (gx_t (gx_t (gx_h zO_o)))) 2 fl_X8_237 rfl dX8_zone_65 ?_
      refine r_iload0 C hl 2 rfl dX8_zone_68 ?_
      obtain ⟨v5_, e5, hf⟩ := bx hf
      refine r_iald C hw _ (gx_t (gx_t (gx_t (gx_h zO_g2)))) e5 dX8_zone_69 ?_
      obtain ⟨u6, e6, hf⟩ := bx hf
      refine r_callVi (ws' := (mO G am as_ ar ac an ath ah u6.2 ++ (tO G an t_an ++ (pO G an p_an ++ (zO G an z_an ++ []))))) (As := [.int v5_]) (rest := []) C hw hl.1 kX8_answer ml_X8_99 (c_X8_answer l G am as_ ar ac an ath ah _ m_am v5_ u6 e6) (CutX.take mO_f CutX.none) _ (gx_h mO_o) rfl ⟨rfl, rfl⟩ ⟨Nat.le_of_ble_eq_true rfl, Nat.le_of_ble_eq_true rfl⟩ rfl ⟨Nat.zero_le _, Nat.zero_le _⟩ rfl (Nat.le_of_ble_eq_true rfl) dX8_zone_70 (fun H locs hw => ?_)
      exact fin_i C hw (Option.some.inj hf) (fun o => o.1) (fun o => (mO G am as_ ar ac an ath ah o.2 ++ (tO G an t_an ++ (pO G an p_an ++ (zO G an z_an ++ []))))) rfl rfl dX8_zone_73
    replace hf := ifn hf h1_
    rcases Decidable.em (x2 = 2) with hc | h2_
    · replace hf := ifp hf hc
      refine lv_tableIn (tgt := 74) C.1 C.2.1 dX8_zone_26 (by rw [hc]; decide) (by rw [hc]; decide) (by rw [hc]; rfl) (by decide) ?_
      refine r_aload0 C hl 1 rfl dX8_zone_74 ?_
      refine r_aload0 C hl 0 rfl dX8_zone_75 ?_
      refine r_get C hw _ (gx_t (gx_t (gx_t (gx_h zO_o)))) 4 fl_X8_240 rfl dX8_zone_76 ?_
      refine r_iload0 C hl 2 rfl dX8_zone_79 ?_
      obtain ⟨v3_, e3, hf⟩ := bx hf
      refine r_iald C hw _ (gx_t (gx_t (gx_t (gx_h zO_g4)))) e3 dX8_zone_80 ?_
      obtain ⟨u4, e4, hf⟩ := bx hf
      refine r_callVi (ws' := (mO G am as_ ar ac an ath ah u4.2 ++ (tO G an t_an ++ (pO G an p_an ++ (zO G an z_an ++ []))))) (As := [.int v3_]) (rest := []) C hw hl.1 kX8_answer ml_X8_99 (c_X8_answer l G am as_ ar ac an ath ah _ m_am v3_ u4 e4) (CutX.take mO_f CutX.none) _ (gx_h mO_o) rfl ⟨rfl, rfl⟩ ⟨Nat.le_of_ble_eq_true rfl, Nat.le_of_ble_eq_true rfl⟩ rfl ⟨Nat.zero_le _, Nat.zero_le _⟩ rfl (Nat.le_of_ble_eq_true rfl) dX8_zone_81 (fun H locs hw => ?_)
      exact fin_i C hw (Option.some.inj hf) (fun o => o.1) (fun o => (mO G am as_ ar ac an ath ah o.2 ++ (tO G an t_an ++ (pO G an p_an ++ (zO G an z_an ++ []))))) rfl rfl dX8_zone_84
    replace hf := ifn hf h2_
    refine lv_tableOut (tgt := 85) C.1 C.2.1 dX8_zone_26 (sw_out3 h0_ h1_ h2_) (by decide) ?_
    refine r_aload0 C hl 1 rfl dX8_zone_85 ?_
    refine lv_iconst (v := 1) C.1 C.2.1 dX8_zone_86 (by decide) ?_
    obtain ⟨u2, e2, hf⟩ := bx hf
    refine r_callVi (ws' := (mO G am as_ ar ac an ath ah u2.2 ++ (tO G an t_an ++ (pO G an p_an ++ (zO G an z_an ++ []))))) (As := [.int 1]) (rest := []) C hw hl.1 kX8_refuse ml_X8_63 (c_X8_refuse l G am as_ ar ac an ath ah _ m_am 1 u2 e2) (CutX.take mO_f CutX.none) _ (gx_h mO_o) rfl ⟨rfl, rfl⟩ ⟨Nat.le_of_ble_eq_true rfl, Nat.le_of_ble_eq_true rfl⟩ rfl ⟨Nat.zero_le _, Nat.zero_le _⟩ rfl (Nat.le_of_ble_eq_true rfl) dX8_zone_87 (fun H locs hw => ?_)
    exact fin_i C hw (Option.some.inj hf) (fun o => o.1) (fun o => (mO G am as_ ar ac an ath ah o.2 ++ (tO G an t_an ++ (pO G an p_an ++ (zO G an z_an ++ []))))) rfl rfl dX8_zone_90
  · replace hf := ifn hf hc
    refine r_aload0 C hl 0 rfl dX8_zone_8 ?_
    refine lv_iconst (v := 1) C.1 C.2.1 dX8_zone_9 (by decide) ?_
    obtain ⟨u9, e9, hf⟩ := bx hf
    refine r_callVi (ws' := (mO G am as_ ar ac an ath ah u9.2 ++ (tO G an t_an ++ (pO G an p_an ++ (zO G an z_an ++ []))))) (As := [.int 1]) (rest := []) C hw hl.1 kX8_refuse ml_X8_63 (c_X8_refuse l G am as_ ar ac an ath ah _ m_am 1 u9 e9) (CutX.take mO_f CutX.none) _ (gx_h mO_o) rfl ⟨rfl, rfl⟩ ⟨Nat.le_of_ble_eq_true rfl, Nat.le_of_ble_eq_true rfl⟩ rfl ⟨Nat.zero_le _, Nat.zero_le _⟩ rfl (Nat.le_of_ble_eq_true rfl) dX8_zone_10 (fun H locs hw => ?_)
    exact fin_i C hw (Option.some.inj hf) (fun o => o.1) (fun o => (mO G am as_ ar ac an ath ah o.2 ++ (tO G an t_an ++ (pO G an p_an ++ (zO G an z_an ++ []))))) rfl rfl dX8_zone_13
set_option maxHeartbeats 4000000 in
set_option maxRecDepth 100000 in
theorem c_X8_slot (l : Launch) (G : GG) (am : Nat → Nat) (as_ : Nat → Nat) (ar : Nat → Nat) (ac : Nat → Nat) (an : Nat → Nat) (ath : Nat → Nat) (ah : Nat → Nat) (sz : Nat) (m_am : Pic) (t_an : Pic) (p_an : Pic) (z_an : Pic) (x1 : Int32) (x2 : Int32) (out : Int32 × Pic) (hf : f_X8_slot m_am t_an p_an z_an x1 x2 = some out) : Met l yX8_slot (.code yX8_slot cX8_slot 3 (some .int) :: BT) ({ frames := 2, cells := 0, slots := 0, locals := 42 }) (va_Pc [.ref (am 99), .int x1, .int x2] (PreW G sz (mO G am as_ ar ac an ath ah m_am ++ (tO G an t_an ++ (pO G an p_an ++ (zO G an z_an ++ [])))))) (Ans G out.1 (va_A (mO G am as_ ar ac an ath ah m_am ++ (tO G an t_an ++ (pO G an p_an ++ (zO G an z_an ++ [])))) sz) (mO G am as_ ar ac an ath ah out.2 ++ (tO G an t_an ++ (pO G an p_an ++ (zO G an z_an ++ []))))) 0 0 (va_A (mO G am as_ ar ac an ath ah m_am ++ (tO G an t_an ++ (pO G an p_an ++ (zO G an z_an ++ [])))) sz) := by
  refine Met.into (by decide) (Nat.le_of_ble_eq_true rfl) ?_
  intro p e s m below meth c C hsz ls hl hw
  have hl : lv_has ls 3 [(0, .ref (am 99)), (1, .int x1), (2, .int x2)] := hl
  clear hsz
  generalize va_A (mO G am as_ ar ac an ath ah m_am ++ (tO G an t_an ++ (pO G an p_an ++ (zO G an z_an ++ [])))) sz = A at hw ⊢
  have hB_37 : ∀ (m_am : Pic), b_X8_slot_37 t_an p_an z_an x1 x2  m_am = some out → ∀ (H : Heap) (locs : List Loc), Wd G A s H locs (mO G am as_ ar ac an ath ah m_am ++ (tO G an t_an ++ (pO G an p_an ++ (zO G an z_an ++ [])))) → ∀ ls : Array Slot, lv_has ls 3 [(0, .ref (am 99))] → W p l e ({ frames := 2, cells := 0, slots := 0, locals := 42 }) s m [.ref (am 99), .int x1, .int x2].toArray below meth c H locs 0 0 (MQ below (Ans G out.1 A (mO G am as_ ar ac an ath ah out.2 ++ (tO G an t_an ++ (pO G an p_an ++ (zO G an z_an ++ []))))) [.ref (am 99), .int x1, .int x2].toArray s 0 0 A) (F0 m 37 ls []) := by
    intro m_am hf H locs hw ls hl
    unfold b_X8_slot_37 at hf
    refine r_aload0 C hl 0 rfl dX8_slot_37 ?_
    refine lv_iconst (v := 1) C.1 C.2.1 dX8_slot_38 (by decide) ?_
    obtain ⟨u2, e2, hf⟩ := bx hf
    refine r_callVi (ws' := (mO G am as_ ar ac an ath ah u2.2 ++ (tO G an t_an ++ (pO G an p_an ++ (zO G an z_an ++ []))))) (As := [.int 1]) (rest := []) C hw hl.1 kX8_refuse ml_X8_63 (c_X8_refuse l G am as_ ar ac an ath ah _ m_am 1 u2 e2) (CutX.take mO_f CutX.none) _ (gx_h mO_o) rfl ⟨rfl, rfl⟩ ⟨Nat.le_of_ble_eq_true rfl, Nat.le_of_ble_eq_true rfl⟩ rfl ⟨Nat.zero_le _, Nat.zero_le _⟩ rfl (Nat.le_of_ble_eq_true rfl) dX8_slot_39 (fun H locs hw => ?_)
    exact fin_i C hw (Option.some.inj hf) (fun o => o.1) (fun o => (mO G am as_ ar ac an ath ah o.2 ++ (tO G an t_an ++ (pO G an p_an ++ (zO G an z_an ++ []))))) rfl rfl dX8_slot_42
  unfold f_X8_slot at hf
  refine r_aload0 C hl 0 rfl dX8_slot_0 ?_
  refine r_iload0 C hl 1 rfl dX8_slot_1 ?_
  obtain ⟨u1, e1, hf⟩ := bx hf
  refine r_callVi (ws' := (mO G am as_ ar ac an ath ah m_am ++ (tO G an t_an ++ (pO G an p_an ++ (zO G an z_an ++ []))))) (As := [.int x1]) (rest := []) C hw hl.1 kX8_noZone ml_X8_231 (c_X8_noZone l G am as_ ar ac an ath ah _ m_am t_an p_an z_an x1 u1 e1) (CutX.take mO_f (CutX.take tO_f (CutX.take pO_f (CutX.take zO_f CutX.none)))) _ (gx_h mO_o) rfl ⟨rfl, rfl⟩ ⟨Nat.le_of_ble_eq_true rfl, Nat.le_of_ble_eq_true rfl⟩ rfl ⟨Nat.zero_le _, Nat.zero_le _⟩ rfl (Nat.le_of_ble_eq_true rfl) dX8_slot_2 (fun H locs hw => ?_)
  refine lv_if_ne (tgt := 37) C.1 C.2.1 dX8_slot_5 (by decide) (fun hc => ?_) (fun hc => ?_)
  · replace hf := ifn hf hc
    exact hB_37  m_am hf _ _ hw _ (lv_sub hl [0] rfl)
  · replace hf := ifp hf hc
    refine r_iload0 C hl 2 rfl dX8_slot_8 ?_
    refine lv_if_lt (tgt := 37) C.1 C.2.1 dX8_slot_9 (by decide) (fun hc => ?_) (fun hc => ?_)
    · replace hf := ifp hf hc
      exact hB_37  m_am hf _ _ hw _ (lv_sub hl [0] rfl)
    · replace hf := ifn hf hc
      refine r_iload0 C hl 2 rfl dX8_slot_12 ?_
      refine r_aload0 C hl 0 rfl dX8_slot_13 ?_
      refine r_get C hw _ (gx_h mO_o) 9 fl_X8_37 rfl dX8_slot_14 ?_
      refine r_get C hw _ (gx_t (gx_h tO_o)) 2 fl_X8_105 rfl dX8_slot_17 ?_
      refine r_get C hw _ (gx_t (gx_t (gx_h pO_o))) 3 fl_X8_120 rfl dX8_slot_20 ?_
      refine r_get C hw _ (gx_t (gx_t (gx_t (gx_h zO_o)))) 3 fl_X8_241 rfl dX8_slot_23 ?_
      refine r_iload0 C hl 1 rfl dX8_slot_26 ?_
      obtain ⟨v3_, e3, hf⟩ := bx hf
      refine r_iald C hw _ (gx_t (gx_t (gx_t (gx_h zO_g3)))) e3 dX8_slot_27 ?_
      refine lv_icmp_ge (tgt := 37) C.1 C.2.1 dX8_slot_28 (by decide) (fun hc => ?_) (fun hc => ?_)
      · replace hf := ifp hf hc
        exact hB_37  m_am hf _ _ hw _ (lv_sub hl [0] rfl)
      · replace hf := ifn hf hc
        refine r_iload0 C hl 2 rfl dX8_slot_31 ?_
        refine lv_bipush (v := 16) C.1 C.2.1 dX8_slot_32 (by decide) ?_
        refine lv_icmp_lt (tgt := 43) C.1 C.2.1 dX8_slot_34 (by decide) (fun hc => ?_) (fun hc => ?_)
        · replace hf := ifp hf hc
          refine r_aload0 C hl 0 rfl dX8_slot_43 ?_
          refine r_aload0 C hl 0 rfl dX8_slot_44 ?_
          refine r_get C hw _ (gx_h mO_o) 9 fl_X8_37 rfl dX8_slot_45 ?_
          refine r_get C hw _ (gx_t (gx_h tO_o)) 2 fl_X8_105 rfl dX8_slot_48 ?_
          refine r_get C hw _ (gx_t (gx_t (gx_h pO_o))) 3 fl_X8_120 rfl dX8_slot_51 ?_
          refine r_get C hw _ (gx_t (gx_t (gx_t (gx_h zO_o)))) 5 fl_X8_244 rfl dX8_slot_54 ?_
          refine r_iload0 C hl 1 rfl dX8_slot_57 ?_
          refine lv_bipush (v := 16) C.1 C.2.1 dX8_slot_58 (by decide) ?_
          refine lv_imul C.1 C.2.1 dX8_slot_60 ?_
          refine r_iload0 C hl 2 rfl dX8_slot_61 ?_
          refine lv_iadd C.1 C.2.1 dX8_slot_62 ?_
          obtain ⟨v4_, e4, hf⟩ := bx hf
          refine r_iald C hw _ (gx_t (gx_t (gx_t (gx_h zO_g5)))) e4 dX8_slot_63 ?_
          obtain ⟨u5, e5, hf⟩ := bx hf
          refine r_callVi (ws' := (mO G am as_ ar ac an ath ah u5.2 ++ (tO G an t_an ++ (pO G an p_an ++ (zO G an z_an ++ []))))) (As := [.int v4_]) (rest := []) C hw hl.1 kX8_answer ml_X8_99 (c_X8_answer l G am as_ ar ac an ath ah _ m_am v4_ u5 e5) (CutX.take mO_f CutX.none) _ (gx_h mO_o) rfl ⟨rfl, rfl⟩ ⟨Nat.le_of_ble_eq_true rfl, Nat.le_of_ble_eq_true rfl⟩ rfl ⟨Nat.zero_le _, Nat.zero_le _⟩ rfl (Nat.le_of_ble_eq_true rfl) dX8_slot_64 (fun H locs hw => ?_)
          exact fin_i C hw (Option.some.inj hf) (fun o => o.1) (fun o => (mO G am as_ ar ac an ath ah o.2 ++ (tO G an t_an ++ (pO G an p_an ++ (zO G an z_an ++ []))))) rfl rfl dX8_slot_67
        · replace hf := ifn hf hc
          exact hB_37  m_am hf _ _ hw _ (lv_sub hl [0] rfl)
set_option maxHeartbeats 4000000 in
set_option maxRecDepth 100000 in
theorem c_X8_page (l : Launch) (G : GG) (am : Nat → Nat) (as_ : Nat → Nat) (ar : Nat → Nat) (ac : Nat → Nat) (an : Nat → Nat) (ath : Nat → Nat) (ah : Nat → Nat) (sz : Nat) (m_am : Pic) (t_an : Pic) (p_an : Pic) (x1 : Int32) (out : Int32 × Pic) (hf : f_X8_page m_am t_an p_an x1 = some out) : Met l yX8_page (.code yX8_page cX8_page 2 (some .int) :: BT) ({ frames := 1, cells := 0, slots := 0, locals := 21 }) (va_Pc [.ref (am 99), .int x1] (PreW G sz (mO G am as_ ar ac an ath ah m_am ++ (tO G an t_an ++ (pO G an p_an ++ []))))) (Ans G out.1 (va_A (mO G am as_ ar ac an ath ah m_am ++ (tO G an t_an ++ (pO G an p_an ++ []))) sz) (mO G am as_ ar ac an ath ah out.2 ++ (tO G an t_an ++ (pO G an p_an ++ [])))) 0 0 (va_A (mO G am as_ ar ac an ath ah m_am ++ (tO G an t_an ++ (pO G an p_an ++ []))) sz) := by
  refine Met.into (by decide) (Nat.le_of_ble_eq_true rfl) ?_
  intro p e s m below meth c C hsz ls hl hw
  have hl : lv_has ls 2 [(0, .ref (am 99)), (1, .int x1)] := hl
  clear hsz
  generalize va_A (mO G am as_ ar ac an ath ah m_am ++ (tO G an t_an ++ (pO G an p_an ++ []))) sz = A at hw ⊢
  unfold f_X8_page at hf
  refine r_aload0 C hl 0 rfl dX8_page_0 ?_
  refine r_iload0 C hl 1 rfl dX8_page_1 ?_
  obtain ⟨u1, e1, hf⟩ := bx hf
  refine r_callVi (ws' := (mO G am as_ ar ac an ath ah m_am ++ (tO G an t_an ++ (pO G an p_an ++ [])))) (As := [.int x1]) (rest := []) C hw hl.1 kX8_noPage ml_X8_247 (c_X8_noPage l G am as_ ar ac an ath ah _ m_am x1 u1 e1) (CutX.take mO_f CutX.none) _ (gx_h mO_o) rfl ⟨rfl, rfl⟩ ⟨Nat.le_of_ble_eq_true rfl, Nat.le_of_ble_eq_true rfl⟩ rfl ⟨Nat.zero_le _, Nat.zero_le _⟩ rfl (Nat.le_of_ble_eq_true rfl) dX8_page_2 (fun H locs hw => ?_)
  refine lv_if_eq (tgt := 14) C.1 C.2.1 dX8_page_5 (by decide) (fun hc => ?_) (fun hc => ?_)
  · replace hf := ifp hf hc
    refine r_aload0 C hl 0 rfl dX8_page_14 ?_
    refine r_aload0 C hl 0 rfl dX8_page_15 ?_
    refine r_get C hw _ (gx_h mO_o) 9 fl_X8_37 rfl dX8_page_16 ?_
    refine r_get C hw _ (gx_t (gx_h tO_o)) 2 fl_X8_105 rfl dX8_page_19 ?_
    refine r_get C hw _ (gx_t (gx_t (gx_h pO_o))) 4 fl_X8_250 rfl dX8_page_22 ?_
    refine r_iload0 C hl 1 rfl dX8_page_25 ?_
    obtain ⟨v2_, e2, hf⟩ := bx hf
    refine r_iald C hw _ (gx_t (gx_t (gx_h pO_g4))) e2 dX8_page_26 ?_
    obtain ⟨u3, e3, hf⟩ := bx hf
    refine r_callVi (ws' := (mO G am as_ ar ac an ath ah u3.2 ++ (tO G an t_an ++ (pO G an p_an ++ [])))) (As := [.int v2_]) (rest := []) C hw hl.1 kX8_answer ml_X8_99 (c_X8_answer l G am as_ ar ac an ath ah _ m_am v2_ u3 e3) (CutX.take mO_f CutX.none) _ (gx_h mO_o) rfl ⟨rfl, rfl⟩ ⟨Nat.le_of_ble_eq_true rfl, Nat.le_of_ble_eq_true rfl⟩ rfl ⟨Nat.zero_le _, Nat.zero_le _⟩ rfl (Nat.le_of_ble_eq_true rfl) dX8_page_27 (fun H locs hw => ?_)
    exact fin_i C hw (Option.some.inj hf) (fun o => o.1) (fun o => (mO G am as_ ar ac an ath ah o.2 ++ (tO G an t_an ++ (pO G an p_an ++ [])))) rfl rfl dX8_page_30
  · replace hf := ifn hf hc
    refine r_aload0 C hl 0 rfl dX8_page_8 ?_
    refine lv_iconst (v := 1) C.1 C.2.1 dX8_page_9 (by decide) ?_
    obtain ⟨u4, e4, hf⟩ := bx hf
    refine r_callVi (ws' := (mO G am as_ ar ac an ath ah u4.2 ++ (tO G an t_an ++ (pO G an p_an ++ [])))) (As := [.int 1]) (rest := []) C hw hl.1 kX8_refuse ml_X8_63 (c_X8_refuse l G am as_ ar ac an ath ah _ m_am 1 u4 e4) (CutX.take mO_f CutX.none) _ (gx_h mO_o) rfl ⟨rfl, rfl⟩ ⟨Nat.le_of_ble_eq_true rfl, Nat.le_of_ble_eq_true rfl⟩ rfl ⟨Nat.zero_le _, Nat.zero_le _⟩ rfl (Nat.le_of_ble_eq_true rfl) dX8_page_10 (fun H locs hw => ?_)
    exact fin_i C hw (Option.some.inj hf) (fun o => o.1) (fun o => (mO G am as_ ar ac an ath ah o.2 ++ (tO G an t_an ++ (pO G an p_an ++ [])))) rfl rfl dX8_page_13
set_option maxHeartbeats 4000000 in
set_option maxRecDepth 100000 in
theorem c_X8_pooled (l : Launch) (G : GG) (am : Nat → Nat) (as_ : Nat → Nat) (ar : Nat → Nat) (ac : Nat → Nat) (an : Nat → Nat) (ath : Nat → Nat) (ah : Nat → Nat) (sz : Nat) (m_am : Pic) (t_an : Pic) (p_an : Pic) (x1 : Int32) (x2 : Int32) (out : Int32 × Pic) (hf : f_X8_pooled m_am t_an p_an x1 x2 = some out) : Met l yX8_pooled (.code yX8_pooled cX8_pooled 4 (some .int) :: BT) ({ frames := 1, cells := 0, slots := 0, locals := 22 }) (va_Pc [.ref (am 99), .int x1, .int x2] (PreW G sz (mO G am as_ ar ac an ath ah m_am ++ (tO G an t_an ++ (pO G an p_an ++ []))))) (Ans G out.1 (va_A (mO G am as_ ar ac an ath ah m_am ++ (tO G an t_an ++ (pO G an p_an ++ []))) sz) (mO G am as_ ar ac an ath ah out.2 ++ (tO G an t_an ++ (pO G an p_an ++ [])))) 0 0 (va_A (mO G am as_ ar ac an ath ah m_am ++ (tO G an t_an ++ (pO G an p_an ++ []))) sz) := by
  refine Met.into (by decide) (Nat.le_of_ble_eq_true rfl) ?_
  intro p e s m below meth c C hsz ls hl hw
  have hl : lv_has ls 4 [(0, .ref (am 99)), (1, .int x1), (2, .int x2)] := hl
  clear hsz
  generalize va_A (mO G am as_ ar ac an ath ah m_am ++ (tO G an t_an ++ (pO G an p_an ++ []))) sz = A at hw ⊢
  have hB_17 : ∀ (m_am : Pic), b_X8_pooled_17 t_an p_an x1 x2  m_am = some out → ∀ (H : Heap) (locs : List Loc), Wd G A s H locs (mO G am as_ ar ac an ath ah m_am ++ (tO G an t_an ++ (pO G an p_an ++ []))) → ∀ ls : Array Slot, lv_has ls 4 [(0, .ref (am 99))] → W p l e ({ frames := 1, cells := 0, slots := 0, locals := 22 }) s m [.ref (am 99), .int x1, .int x2].toArray below meth c H locs 0 0 (MQ below (Ans G out.1 A (mO G am as_ ar ac an ath ah out.2 ++ (tO G an t_an ++ (pO G an p_an ++ [])))) [.ref (am 99), .int x1, .int x2].toArray s 0 0 A) (F0 m 17 ls []) := by
    intro m_am hf H locs hw ls hl
    unfold b_X8_pooled_17 at hf
    refine r_aload0 C hl 0 rfl dX8_pooled_17 ?_
    refine lv_iconst (v := 1) C.1 C.2.1 dX8_pooled_18 (by decide) ?_
    obtain ⟨u2, e2, hf⟩ := bx hf
    refine r_callVi (ws' := (mO G am as_ ar ac an ath ah u2.2 ++ (tO G an t_an ++ (pO G an p_an ++ [])))) (As := [.int 1]) (rest := []) C hw hl.1 kX8_refuse ml_X8_63 (c_X8_refuse l G am as_ ar ac an ath ah _ m_am 1 u2 e2) (CutX.take mO_f CutX.none) _ (gx_h mO_o) rfl ⟨rfl, rfl⟩ ⟨Nat.le_of_ble_eq_true rfl, Nat.le_of_ble_eq_true rfl⟩ rfl ⟨Nat.zero_le _, Nat.zero_le _⟩ rfl (Nat.le_of_ble_eq_true rfl) dX8_pooled_19 (fun H locs hw => ?_)
    exact fin_i C hw (Option.some.inj hf) (fun o => o.1) (fun o => (mO G am as_ ar ac an ath ah o.2 ++ (tO G an t_an ++ (pO G an p_an ++ [])))) rfl rfl dX8_pooled_22
  unfold f_X8_pooled at hf
  refine r_aload0 C hl 0 rfl dX8_pooled_0 ?_
  refine r_iload0 C hl 1 rfl dX8_pooled_1 ?_
  obtain ⟨u1, e1, hf⟩ := bx hf
  refine r_callVi (ws' := (mO G am as_ ar ac an ath ah m_am ++ (tO G an t_an ++ (pO G an p_an ++ [])))) (As := [.int x1]) (rest := []) C hw hl.1 kX8_noPage ml_X8_247 (c_X8_noPage l G am as_ ar ac an ath ah _ m_am x1 u1 e1) (CutX.take mO_f CutX.none) _ (gx_h mO_o) rfl ⟨rfl, rfl⟩ ⟨Nat.le_of_ble_eq_true rfl, Nat.le_of_ble_eq_true rfl⟩ rfl ⟨Nat.zero_le _, Nat.zero_le _⟩ rfl (Nat.le_of_ble_eq_true rfl) dX8_pooled_2 (fun H locs hw => ?_)
  refine lv_if_ne (tgt := 17) C.1 C.2.1 dX8_pooled_5 (by decide) (fun hc => ?_) (fun hc => ?_)
  · replace hf := ifn hf hc
    exact hB_17  m_am hf _ _ hw _ (lv_sub hl [0] rfl)
  · replace hf := ifp hf hc
    refine r_iload0 C hl 2 rfl dX8_pooled_8 ?_
    refine lv_if_lt (tgt := 17) C.1 C.2.1 dX8_pooled_9 (by decide) (fun hc => ?_) (fun hc => ?_)
    · replace hf := ifp hf hc
      exact hB_17  m_am hf _ _ hw _ (lv_sub hl [0] rfl)
    · replace hf := ifn hf hc
      refine r_iload0 C hl 2 rfl dX8_pooled_12 ?_
      refine lv_iconst (v := 4) C.1 C.2.1 dX8_pooled_13 (by decide) ?_
      refine lv_icmp_le (tgt := 23) C.1 C.2.1 dX8_pooled_14 (by decide) (fun hc => ?_) (fun hc => ?_)
      · replace hf := ifp hf hc
        refine r_aload0 C hl 0 rfl dX8_pooled_23 ?_
        refine r_get C hw _ (gx_h mO_o) 9 fl_X8_37 rfl dX8_pooled_24 ?_
        refine r_get C hw _ (gx_t (gx_h tO_o)) 2 fl_X8_105 rfl dX8_pooled_27 ?_
        refine r_astore0 C hl [(3, .ref (an 99)), (0, .ref (am 99)), (1, .int x1), (2, .int x2)] (by decide) rfl dX8_pooled_30 (fun ls hl => ?_)
        refine r_aload0 C hl 0 rfl dX8_pooled_31 ?_
        refine r_get C hw _ (gx_t (gx_t (gx_h pO_o))) 4 fl_X8_250 rfl dX8_pooled_32 ?_
        refine r_iload0 C hl 2 rfl dX8_pooled_35 ?_
        obtain ⟨v3_, e3, hf⟩ := bx hf
        refine r_iald C hw _ (gx_t (gx_t (gx_h pO_g4))) e3 dX8_pooled_36 ?_
        refine lv_iconst (v := 2) C.1 C.2.1 dX8_pooled_37 (by decide) ?_
        refine lv_icmp_eq (tgt := 47) C.1 C.2.1 dX8_pooled_38 (by decide) (fun hc => ?_) (fun hc => ?_)
        · replace hf := ifp hf hc
          refine r_iload0 C hl 3 rfl dX8_pooled_47 ?_
          rcases Decidable.em (x2 = 0) with hc | h0_
          · replace hf := ifp hf hc
            refine lv_tableIn (tgt := 80) C.1 C.2.1 dX8_pooled_48 (by rw [hc]; decide) (by rw [hc]; decide) (by rw [hc]; rfl) (by decide) ?_
            refine r_aload0 C hl 1 rfl dX8_pooled_80 ?_
            refine r_aload0 C hl 0 rfl dX8_pooled_81 ?_
            refine r_get C hw _ (gx_t (gx_t (gx_h pO_o))) 5 fl_X8_253 rfl dX8_pooled_82 ?_
            refine r_iload0 C hl 2 rfl dX8_pooled_85 ?_
            obtain ⟨v12_, e12, hf⟩ := bx hf
            refine r_iald C hw _ (gx_t (gx_t (gx_h pO_g5))) e12 dX8_pooled_86 ?_
            obtain ⟨u13, e13, hf⟩ := bx hf
            refine r_callVi (ws' := (mO G am as_ ar ac an ath ah u13.2 ++ (tO G an t_an ++ (pO G an p_an ++ [])))) (As := [.int v12_]) (rest := []) C hw hl.1 kX8_answer ml_X8_99 (c_X8_answer l G am as_ ar ac an ath ah _ m_am v12_ u13 e13) (CutX.take mO_f CutX.none) _ (gx_h mO_o) rfl ⟨rfl, rfl⟩ ⟨Nat.le_of_ble_eq_true rfl, Nat.le_of_ble_eq_true rfl⟩ rfl ⟨Nat.zero_le _, Nat.zero_le _⟩ rfl (Nat.le_of_ble_eq_true rfl) dX8_pooled_87 (fun H locs hw => ?_)
            exact fin_i C hw (Option.some.inj hf) (fun o => o.1) (fun o => (mO G am as_ ar ac an ath ah o.2 ++ (tO G an t_an ++ (pO G an p_an ++ [])))) rfl rfl dX8_pooled_90
          replace hf := ifn hf h0_
          rcases Decidable.em (x2 = 1) with hc | h1_
          · replace hf := ifp hf hc
            refine lv_tableIn (tgt := 91) C.1 C.2.1 dX8_pooled_48 (by rw [hc]; decide) (by rw [hc]; decide) (by rw [hc]; rfl) (by decide) ?_
            refine r_aload0 C hl 1 rfl dX8_pooled_91 ?_
            refine r_aload0 C hl 0 rfl dX8_pooled_92 ?_
            refine r_get C hw _ (gx_t (gx_t (gx_h pO_o))) 6 fl_X8_254 rfl dX8_pooled_93 ?_
            refine r_iload0 C hl 2 rfl dX8_pooled_96 ?_
            obtain ⟨v10_, e10, hf⟩ := bx hf
            refine r_iald C hw _ (gx_t (gx_t (gx_h pO_g6))) e10 dX8_pooled_97 ?_
            obtain ⟨u11, e11, hf⟩ := bx hf
            refine r_callVi (ws' := (mO G am as_ ar ac an ath ah u11.2 ++ (tO G an t_an ++ (pO G an p_an ++ [])))) (As := [.int v10_]) (rest := []) C hw hl.1 kX8_answer ml_X8_99 (c_X8_answer l G am as_ ar ac an ath ah _ m_am v10_ u11 e11) (CutX.take mO_f CutX.none) _ (gx_h mO_o) rfl ⟨rfl, rfl⟩ ⟨Nat.le_of_ble_eq_true rfl, Nat.le_of_ble_eq_true rfl⟩ rfl ⟨Nat.zero_le _, Nat.zero_le _⟩ rfl (Nat.le_of_ble_eq_true rfl) dX8_pooled_98 (fun H locs hw => ?_)
            exact fin_i C hw (Option.some.inj hf) (fun o => o.1) (fun o => (mO G am as_ ar ac an ath ah o.2 ++ (tO G an t_an ++ (pO G an p_an ++ [])))) rfl rfl dX8_pooled_101
          replace hf := ifn hf h1_
          rcases Decidable.em (x2 = 2) with hc | h2_
          · replace hf := ifp hf hc
            refine lv_tableIn (tgt := 102) C.1 C.2.1 dX8_pooled_48 (by rw [hc]; decide) (by rw [hc]; decide) (by rw [hc]; rfl) (by decide) ?_
            refine r_aload0 C hl 1 rfl dX8_pooled_102 ?_
            refine r_aload0 C hl 0 rfl dX8_pooled_103 ?_
            refine r_get C hw _ (gx_t (gx_t (gx_h pO_o))) 7 fl_X8_257 rfl dX8_pooled_104 ?_
            refine r_iload0 C hl 2 rfl dX8_pooled_107 ?_
            obtain ⟨v8_, e8, hf⟩ := bx hf
            refine r_iald C hw _ (gx_t (gx_t (gx_h pO_g7))) e8 dX8_pooled_108 ?_
            obtain ⟨u9, e9, hf⟩ := bx hf
            refine r_callVi (ws' := (mO G am as_ ar ac an ath ah u9.2 ++ (tO G an t_an ++ (pO G an p_an ++ [])))) (As := [.int v8_]) (rest := []) C hw hl.1 kX8_answer ml_X8_99 (c_X8_answer l G am as_ ar ac an ath ah _ m_am v8_ u9 e9) (CutX.take mO_f CutX.none) _ (gx_h mO_o) rfl ⟨rfl, rfl⟩ ⟨Nat.le_of_ble_eq_true rfl, Nat.le_of_ble_eq_true rfl⟩ rfl ⟨Nat.zero_le _, Nat.zero_le _⟩ rfl (Nat.le_of_ble_eq_true rfl) dX8_pooled_109 (fun H locs hw => ?_)
            exact fin_i C hw (Option.some.inj hf) (fun o => o.1) (fun o => (mO G am as_ ar ac an ath ah o.2 ++ (tO G an t_an ++ (pO G an p_an ++ [])))) rfl rfl dX8_pooled_112
          replace hf := ifn hf h2_
          rcases Decidable.em (x2 = 3) with hc | h3_
          · replace hf := ifp hf hc
            refine lv_tableIn (tgt := 113) C.1 C.2.1 dX8_pooled_48 (by rw [hc]; decide) (by rw [hc]; decide) (by rw [hc]; rfl) (by decide) ?_
            refine r_aload0 C hl 1 rfl dX8_pooled_113 ?_
            refine r_aload0 C hl 0 rfl dX8_pooled_114 ?_
            refine r_iload0 C hl 2 rfl dX8_pooled_115 ?_
            obtain ⟨u6, e6, hf⟩ := bx hf
            refine r_callVi (ws' := (mO G am as_ ar ac an ath ah m_am ++ (tO G an t_an ++ (pO G an p_an ++ [])))) (As := [.int x1]) (rest := [.ref (am 99)]) C hw hl.1 kX3_ageOf ml_X8_260 (c_X3_ageOf l G an _ p_an x1 u6 e6) (CutX.skip (CutX.skip (CutX.take pO_f CutX.none))) _ (gx_t (gx_t (gx_h pO_o))) rfl ⟨rfl, rfl⟩ ⟨Nat.le_of_ble_eq_true rfl, Nat.le_of_ble_eq_true rfl⟩ rfl ⟨Nat.zero_le _, Nat.zero_le _⟩ rfl (Nat.le_of_ble_eq_true rfl) dX8_pooled_116 (fun H locs hw => ?_)
            obtain ⟨u7, e7, hf⟩ := bx hf
            refine r_callVi (ws' := (mO G am as_ ar ac an ath ah u7.2 ++ (tO G an t_an ++ (pO G an p_an ++ [])))) (As := [.int u6]) (rest := []) C hw hl.1 kX8_answer ml_X8_99 (c_X8_answer l G am as_ ar ac an ath ah _ m_am u6 u7 e7) (CutX.take mO_f CutX.none) _ (gx_h mO_o) rfl ⟨rfl, rfl⟩ ⟨Nat.le_of_ble_eq_true rfl, Nat.le_of_ble_eq_true rfl⟩ rfl ⟨Nat.zero_le _, Nat.zero_le _⟩ rfl (Nat.le_of_ble_eq_true rfl) dX8_pooled_119 (fun H locs hw => ?_)
            exact fin_i C hw (Option.some.inj hf) (fun o => o.1) (fun o => (mO G am as_ ar ac an ath ah o.2 ++ (tO G an t_an ++ (pO G an p_an ++ [])))) rfl rfl dX8_pooled_122
          replace hf := ifn hf h3_
          refine lv_tableOut (tgt := 123) C.1 C.2.1 dX8_pooled_48 (sw_out4 h0_ h1_ h2_ h3_) (by decide) ?_
          refine r_aload0 C hl 1 rfl dX8_pooled_123 ?_
          refine r_aload0 C hl 0 rfl dX8_pooled_124 ?_
          refine r_get C hw _ (gx_t (gx_t (gx_h pO_o))) 8 fl_X8_263 rfl dX8_pooled_125 ?_
          refine r_iload0 C hl 2 rfl dX8_pooled_128 ?_
          obtain ⟨v4_, e4, hf⟩ := bx hf
          refine r_iald C hw _ (gx_t (gx_t (gx_h pO_g8))) e4 dX8_pooled_129 ?_
          obtain ⟨u5, e5, hf⟩ := bx hf
          refine r_callVi (ws' := (mO G am as_ ar ac an ath ah u5.2 ++ (tO G an t_an ++ (pO G an p_an ++ [])))) (As := [.int v4_]) (rest := []) C hw hl.1 kX8_answer ml_X8_99 (c_X8_answer l G am as_ ar ac an ath ah _ m_am v4_ u5 e5) (CutX.take mO_f CutX.none) _ (gx_h mO_o) rfl ⟨rfl, rfl⟩ ⟨Nat.le_of_ble_eq_true rfl, Nat.le_of_ble_eq_true rfl⟩ rfl ⟨Nat.zero_le _, Nat.zero_le _⟩ rfl (Nat.le_of_ble_eq_true rfl) dX8_pooled_130 (fun H locs hw => ?_)
          exact fin_i C hw (Option.some.inj hf) (fun o => o.1) (fun o => (mO G am as_ ar ac an ath ah o.2 ++ (tO G an t_an ++ (pO G an p_an ++ [])))) rfl rfl dX8_pooled_133
        · replace hf := ifn hf hc
          refine r_aload0 C hl 1 rfl dX8_pooled_41 ?_
          refine lv_iconst (v := 5) C.1 C.2.1 dX8_pooled_42 (by decide) ?_
          obtain ⟨u14, e14, hf⟩ := bx hf
          refine r_callVi (ws' := (mO G am as_ ar ac an ath ah u14.2 ++ (tO G an t_an ++ (pO G an p_an ++ [])))) (As := [.int 5]) (rest := []) C hw hl.1 kX8_refuse ml_X8_63 (c_X8_refuse l G am as_ ar ac an ath ah _ m_am 5 u14 e14) (CutX.take mO_f CutX.none) _ (gx_h mO_o) rfl ⟨rfl, rfl⟩ ⟨Nat.le_of_ble_eq_true rfl, Nat.le_of_ble_eq_true rfl⟩ rfl ⟨Nat.zero_le _, Nat.zero_le _⟩ rfl (Nat.le_of_ble_eq_true rfl) dX8_pooled_43 (fun H locs hw => ?_)
          exact fin_i C hw (Option.some.inj hf) (fun o => o.1) (fun o => (mO G am as_ ar ac an ath ah o.2 ++ (tO G an t_an ++ (pO G an p_an ++ [])))) rfl rfl dX8_pooled_46
      · replace hf := ifn hf hc
        exact hB_17  m_am hf _ _ hw _ (lv_sub hl [0] rfl)
set_option maxHeartbeats 4000000 in
set_option maxRecDepth 100000 in
theorem c_X8_read (l : Launch) (G : GG) (am : Nat → Nat) (as_ : Nat → Nat) (ar : Nat → Nat) (ac : Nat → Nat) (an : Nat → Nat) (ath : Nat → Nat) (ah : Nat → Nat) (sz : Nat) (m_am : Pic) (t_an : Pic) (p_an : Pic) (x1 : Int32) (x2 : Int32) (out : Int32 × Pic) (hf : f_X8_read m_am t_an p_an x1 x2 = some out) : Met l yX8_read (.code yX8_read cX8_read 3 (some .int) :: BT) ({ frames := 1, cells := 0, slots := 0, locals := 21 }) (va_Pc [.ref (am 99), .int x1, .int x2] (PreW G sz (mO G am as_ ar ac an ath ah m_am ++ (tO G an t_an ++ (pO G an p_an ++ []))))) (Ans G out.1 (va_A (mO G am as_ ar ac an ath ah m_am ++ (tO G an t_an ++ (pO G an p_an ++ []))) sz) (mO G am as_ ar ac an ath ah out.2 ++ (tO G an t_an ++ (pO G an p_an ++ [])))) 0 0 (va_A (mO G am as_ ar ac an ath ah m_am ++ (tO G an t_an ++ (pO G an p_an ++ []))) sz) := by
  refine Met.into (by decide) (Nat.le_of_ble_eq_true rfl) ?_
  intro p e s m below meth c C hsz ls hl hw
  have hl : lv_has ls 3 [(0, .ref (am 99)), (1, .int x1), (2, .int x2)] := hl
  clear hsz
  generalize va_A (mO G am as_ ar ac an ath ah m_am ++ (tO G an t_an ++ (pO G an p_an ++ []))) sz = A at hw ⊢
  have hB_15 : ∀ (m_am : Pic), b_X8_read_15 t_an p_an x1 x2  m_am = some out → ∀ (H : Heap) (locs : List Loc), Wd G A s H locs (mO G am as_ ar ac an ath ah m_am ++ (tO G an t_an ++ (pO G an p_an ++ []))) → ∀ ls : Array Slot, lv_has ls 3 [(0, .ref (am 99))] → W p l e ({ frames := 1, cells := 0, slots := 0, locals := 21 }) s m [.ref (am 99), .int x1, .int x2].toArray below meth c H locs 0 0 (MQ below (Ans G out.1 A (mO G am as_ ar ac an ath ah out.2 ++ (tO G an t_an ++ (pO G an p_an ++ [])))) [.ref (am 99), .int x1, .int x2].toArray s 0 0 A) (F0 m 15 ls []) := by
    intro m_am hf H locs hw ls hl
    unfold b_X8_read_15 at hf
    refine r_aload0 C hl 0 rfl dX8_read_15 ?_
    refine lv_iconst (v := 1) C.1 C.2.1 dX8_read_16 (by decide) ?_
    obtain ⟨u2, e2, hf⟩ := bx hf
    refine r_callVi (ws' := (mO G am as_ ar ac an ath ah u2.2 ++ (tO G an t_an ++ (pO G an p_an ++ [])))) (As := [.int 1]) (rest := []) C hw hl.1 kX8_refuse ml_X8_63 (c_X8_refuse l G am as_ ar ac an ath ah _ m_am 1 u2 e2) (CutX.take mO_f CutX.none) _ (gx_h mO_o) rfl ⟨rfl, rfl⟩ ⟨Nat.le_of_ble_eq_true rfl, Nat.le_of_ble_eq_true rfl⟩ rfl ⟨Nat.zero_le _, Nat.zero_le _⟩ rfl (Nat.le_of_ble_eq_true rfl) dX8_read_17 (fun H locs hw => ?_)
    exact fin_i C hw (Option.some.inj hf) (fun o => o.1) (fun o => (mO G am as_ ar ac an ath ah o.2 ++ (tO G an t_an ++ (pO G an p_an ++ [])))) rfl rfl dX8_read_20
  unfold f_X8_read at hf
  refine r_aload0 C hl 0 rfl dX8_read_0 ?_
  refine r_iload0 C hl 1 rfl dX8_read_1 ?_
  obtain ⟨u1, e1, hf⟩ := bx hf
  refine r_callVi (ws' := (mO G am as_ ar ac an ath ah m_am ++ (tO G an t_an ++ (pO G an p_an ++ [])))) (As := [.int x1]) (rest := []) C hw hl.1 kX8_noPage ml_X8_247 (c_X8_noPage l G am as_ ar ac an ath ah _ m_am x1 u1 e1) (CutX.take mO_f CutX.none) _ (gx_h mO_o) rfl ⟨rfl, rfl⟩ ⟨Nat.le_of_ble_eq_true rfl, Nat.le_of_ble_eq_true rfl⟩ rfl ⟨Nat.zero_le _, Nat.zero_le _⟩ rfl (Nat.le_of_ble_eq_true rfl) dX8_read_2 (fun H locs hw => ?_)
  refine lv_if_ne (tgt := 15) C.1 C.2.1 dX8_read_5 (by decide) (fun hc => ?_) (fun hc => ?_)
  · replace hf := ifn hf hc
    exact hB_15  m_am hf _ _ hw _ (lv_sub hl [0] rfl)
  · replace hf := ifp hf hc
    refine r_iload0 C hl 2 rfl dX8_read_8 ?_
    obtain ⟨u3, e3, hf⟩ := bx hf
    refine r_callSi (ws' := (mO G am as_ ar ac an ath ah m_am ++ (tO G an t_an ++ (pO G an p_an ++ [])))) (As := [.int x2]) (rest := []) C hw hl.1 kX8_noCell ml_X8_145 (c_X8_noCell l G _ x2 u3 e3) CutX.none ⟨rfl, rfl⟩ ⟨Nat.le_of_ble_eq_true rfl, Nat.le_of_ble_eq_true rfl⟩ rfl ⟨Nat.zero_le _, Nat.zero_le _⟩ rfl (Nat.le_of_ble_eq_true rfl) dX8_read_9 (fun H locs hw => ?_)
    refine lv_if_eq (tgt := 21) C.1 C.2.1 dX8_read_12 (by decide) (fun hc => ?_) (fun hc => ?_)
    · replace hf := ifp hf hc
      refine r_aload0 C hl 0 rfl dX8_read_21 ?_
      refine r_get C hw _ (gx_h mO_o) 9 fl_X8_37 rfl dX8_read_22 ?_
      refine r_get C hw _ (gx_t (gx_h tO_o)) 2 fl_X8_105 rfl dX8_read_25 ?_
      refine r_get C hw _ (gx_t (gx_t (gx_h pO_o))) 4 fl_X8_250 rfl dX8_read_28 ?_
      refine r_iload0 C hl 1 rfl dX8_read_31 ?_
      obtain ⟨v4_, e4, hf⟩ := bx hf
      refine r_iald C hw _ (gx_t (gx_t (gx_h pO_g4))) e4 dX8_read_32 ?_
      refine lv_if_ne (tgt := 42) C.1 C.2.1 dX8_read_33 (by decide) (fun hc => ?_) (fun hc => ?_)
      · replace hf := ifn hf hc
        refine r_aload0 C hl 0 rfl dX8_read_42 ?_
        refine r_aload0 C hl 0 rfl dX8_read_43 ?_
        refine r_get C hw _ (gx_h mO_o) 9 fl_X8_37 rfl dX8_read_44 ?_
        refine r_get C hw _ (gx_t (gx_h tO_o)) 2 fl_X8_105 rfl dX8_read_47 ?_
        refine r_get C hw _ (gx_t (gx_t (gx_h pO_o))) 9 fl_X8_266 rfl dX8_read_50 ?_
        refine r_iload0 C hl 1 rfl dX8_read_53 ?_
        refine lv_bipush (v := 16) C.1 C.2.1 dX8_read_54 (by decide) ?_
        refine lv_imul C.1 C.2.1 dX8_read_56 ?_
        refine r_iload0 C hl 2 rfl dX8_read_57 ?_
        refine lv_iadd C.1 C.2.1 dX8_read_58 ?_
        obtain ⟨v5_, e5, hf⟩ := bx hf
        refine r_iald C hw _ (gx_t (gx_t (gx_h pO_g9))) e5 dX8_read_59 ?_
        obtain ⟨u6, e6, hf⟩ := bx hf
        refine r_callVi (ws' := (mO G am as_ ar ac an ath ah u6.2 ++ (tO G an t_an ++ (pO G an p_an ++ [])))) (As := [.int v5_]) (rest := []) C hw hl.1 kX8_answer ml_X8_99 (c_X8_answer l G am as_ ar ac an ath ah _ m_am v5_ u6 e6) (CutX.take mO_f CutX.none) _ (gx_h mO_o) rfl ⟨rfl, rfl⟩ ⟨Nat.le_of_ble_eq_true rfl, Nat.le_of_ble_eq_true rfl⟩ rfl ⟨Nat.zero_le _, Nat.zero_le _⟩ rfl (Nat.le_of_ble_eq_true rfl) dX8_read_60 (fun H locs hw => ?_)
        exact fin_i C hw (Option.some.inj hf) (fun o => o.1) (fun o => (mO G am as_ ar ac an ath ah o.2 ++ (tO G an t_an ++ (pO G an p_an ++ [])))) rfl rfl dX8_read_63
      · replace hf := ifp hf hc
        refine r_aload0 C hl 0 rfl dX8_read_36 ?_
        refine lv_iconst (v := 5) C.1 C.2.1 dX8_read_37 (by decide) ?_
        obtain ⟨u7, e7, hf⟩ := bx hf
        refine r_callVi (ws' := (mO G am as_ ar ac an ath ah u7.2 ++ (tO G an t_an ++ (pO G an p_an ++ [])))) (As := [.int 5]) (rest := []) C hw hl.1 kX8_refuse ml_X8_63 (c_X8_refuse l G am as_ ar ac an ath ah _ m_am 5 u7 e7) (CutX.take mO_f CutX.none) _ (gx_h mO_o) rfl ⟨rfl, rfl⟩ ⟨Nat.le_of_ble_eq_true rfl, Nat.le_of_ble_eq_true rfl⟩ rfl ⟨Nat.zero_le _, Nat.zero_le _⟩ rfl (Nat.le_of_ble_eq_true rfl) dX8_read_38 (fun H locs hw => ?_)
        exact fin_i C hw (Option.some.inj hf) (fun o => o.1) (fun o => (mO G am as_ ar ac an ath ah o.2 ++ (tO G an t_an ++ (pO G an p_an ++ [])))) rfl rfl dX8_read_41
    · replace hf := ifn hf hc
      exact hB_15  m_am hf _ _ hw _ (lv_sub hl [0] rfl)
set_option maxHeartbeats 4000000 in
set_option maxRecDepth 100000 in
theorem c_X8_aged (l : Launch) (G : GG) (am : Nat → Nat) (as_ : Nat → Nat) (ar : Nat → Nat) (ac : Nat → Nat) (an : Nat → Nat) (ath : Nat → Nat) (ah : Nat → Nat) (sz : Nat) (m_am : Pic) (t_an : Pic) (p_an : Pic) (x1 : Int32) (out : Int32 × Pic) (hf : f_X8_aged m_am t_an p_an x1 = some out) : Met l yX8_aged (.code yX8_aged cX8_aged 2 (some .int) :: BT) ({ frames := 1, cells := 0, slots := 0, locals := 21 }) (va_Pc [.ref (am 99), .int x1] (PreW G sz (mO G am as_ ar ac an ath ah m_am ++ (tO G an t_an ++ (pO G an p_an ++ []))))) (Ans G out.1 (va_A (mO G am as_ ar ac an ath ah m_am ++ (tO G an t_an ++ (pO G an p_an ++ []))) sz) (mO G am as_ ar ac an ath ah out.2 ++ (tO G an t_an ++ (pO G an p_an ++ [])))) 0 0 (va_A (mO G am as_ ar ac an ath ah m_am ++ (tO G an t_an ++ (pO G an p_an ++ []))) sz) := by
  refine Met.into (by decide) (Nat.le_of_ble_eq_true rfl) ?_
  intro p e s m below meth c C hsz ls hl hw
  have hl : lv_has ls 2 [(0, .ref (am 99)), (1, .int x1)] := hl
  clear hsz
  generalize va_A (mO G am as_ ar ac an ath ah m_am ++ (tO G an t_an ++ (pO G an p_an ++ []))) sz = A at hw ⊢
  have hB_25 : ∀ (m_am : Pic), b_X8_aged_25 t_an p_an x1  m_am = some out → ∀ (H : Heap) (locs : List Loc), Wd G A s H locs (mO G am as_ ar ac an ath ah m_am ++ (tO G an t_an ++ (pO G an p_an ++ []))) → ∀ ls : Array Slot, lv_has ls 2 [(0, .ref (am 99))] → W p l e ({ frames := 1, cells := 0, slots := 0, locals := 21 }) s m [.ref (am 99), .int x1].toArray below meth c H locs 0 0 (MQ below (Ans G out.1 A (mO G am as_ ar ac an ath ah out.2 ++ (tO G an t_an ++ (pO G an p_an ++ [])))) [.ref (am 99), .int x1].toArray s 0 0 A) (F0 m 25 ls []) := by
    intro m_am hf H locs hw ls hl
    unfold b_X8_aged_25 at hf
    refine r_aload0 C hl 0 rfl dX8_aged_25 ?_
    refine lv_iconst (v := 1) C.1 C.2.1 dX8_aged_26 (by decide) ?_
    obtain ⟨u1, e1, hf⟩ := bx hf
    refine r_callVi (ws' := (mO G am as_ ar ac an ath ah u1.2 ++ (tO G an t_an ++ (pO G an p_an ++ [])))) (As := [.int 1]) (rest := []) C hw hl.1 kX8_refuse ml_X8_63 (c_X8_refuse l G am as_ ar ac an ath ah _ m_am 1 u1 e1) (CutX.take mO_f CutX.none) _ (gx_h mO_o) rfl ⟨rfl, rfl⟩ ⟨Nat.le_of_ble_eq_true rfl, Nat.le_of_ble_eq_true rfl⟩ rfl ⟨Nat.zero_le _, Nat.zero_le _⟩ rfl (Nat.le_of_ble_eq_true rfl) dX8_aged_27 (fun H locs hw => ?_)
    exact fin_i C hw (Option.some.inj hf) (fun o => o.1) (fun o => (mO G am as_ ar ac an ath ah o.2 ++ (tO G an t_an ++ (pO G an p_an ++ [])))) rfl rfl dX8_aged_30
  unfold f_X8_aged at hf
  refine r_aload0 C hl 0 rfl dX8_aged_0 ?_
  refine r_get C hw _ (gx_h mO_o) 2 fl_X8_85 rfl dX8_aged_1 ?_
  refine lv_if_eq (tgt := 25) C.1 C.2.1 dX8_aged_4 (by decide) (fun hc => ?_) (fun hc => ?_)
  · replace hf := ifp hf hc
    exact hB_25  m_am hf _ _ hw _ (lv_sub hl [0] rfl)
  · replace hf := ifn hf hc
    refine r_iload0 C hl 1 rfl dX8_aged_7 ?_
    refine lv_if_lt (tgt := 25) C.1 C.2.1 dX8_aged_8 (by decide) (fun hc => ?_) (fun hc => ?_)
    · replace hf := ifp hf hc
      exact hB_25  m_am hf _ _ hw _ (lv_sub hl [0] rfl)
    · replace hf := ifn hf hc
      refine r_iload0 C hl 1 rfl dX8_aged_11 ?_
      refine r_aload0 C hl 0 rfl dX8_aged_12 ?_
      refine r_get C hw _ (gx_h mO_o) 9 fl_X8_37 rfl dX8_aged_13 ?_
      refine r_get C hw _ (gx_t (gx_h tO_o)) 2 fl_X8_105 rfl dX8_aged_16 ?_
      refine r_get C hw _ (gx_t (gx_t (gx_h pO_o))) 11 fl_X8_132 rfl dX8_aged_19 ?_
      refine lv_icmp_lt (tgt := 31) C.1 C.2.1 dX8_aged_22 (by decide) (fun hc => ?_) (fun hc => ?_)
      · replace hf := ifp hf hc
        refine r_aload0 C hl 0 rfl dX8_aged_31 ?_
        refine r_aload0 C hl 0 rfl dX8_aged_32 ?_
        refine r_get C hw _ (gx_h mO_o) 9 fl_X8_37 rfl dX8_aged_33 ?_
        refine r_get C hw _ (gx_t (gx_h tO_o)) 2 fl_X8_105 rfl dX8_aged_36 ?_
        refine r_get C hw _ (gx_t (gx_t (gx_h pO_o))) 10 fl_X8_267 rfl dX8_aged_39 ?_
        refine r_iload0 C hl 1 rfl dX8_aged_42 ?_
        obtain ⟨v2_, e2, hf⟩ := bx hf
        refine r_iald C hw _ (gx_t (gx_t (gx_h pO_g10))) e2 dX8_aged_43 ?_
        obtain ⟨u3, e3, hf⟩ := bx hf
        refine r_callVi (ws' := (mO G am as_ ar ac an ath ah u3.2 ++ (tO G an t_an ++ (pO G an p_an ++ [])))) (As := [.int v2_]) (rest := []) C hw hl.1 kX8_answer ml_X8_99 (c_X8_answer l G am as_ ar ac an ath ah _ m_am v2_ u3 e3) (CutX.take mO_f CutX.none) _ (gx_h mO_o) rfl ⟨rfl, rfl⟩ ⟨Nat.le_of_ble_eq_true rfl, Nat.le_of_ble_eq_true rfl⟩ rfl ⟨Nat.zero_le _, Nat.zero_le _⟩ rfl (Nat.le_of_ble_eq_true rfl) dX8_aged_44 (fun H locs hw => ?_)
        exact fin_i C hw (Option.some.inj hf) (fun o => o.1) (fun o => (mO G am as_ ar ac an ath ah o.2 ++ (tO G an t_an ++ (pO G an p_an ++ [])))) rfl rfl dX8_aged_47
      · replace hf := ifn hf hc
        exact hB_25  m_am hf _ _ hw _ (lv_sub hl [0] rfl)
set_option maxHeartbeats 4000000 in
set_option maxRecDepth 100000 in
theorem c_X8_total (l : Launch) (G : GG) (am : Nat → Nat) (as_ : Nat → Nat) (ar : Nat → Nat) (ac : Nat → Nat) (an : Nat → Nat) (ath : Nat → Nat) (ah : Nat → Nat) (sz : Nat) (m_am : Pic) (t_an : Pic) (p_an : Pic) (x1 : Int32) (out : Int32 × Pic) (hf : f_X8_total m_am t_an p_an x1 = some out) : Met l yX8_total (.code yX8_total cX8_total 2 (some .int) :: BT) ({ frames := 1, cells := 0, slots := 0, locals := 21 }) (va_Pc [.ref (am 99), .int x1] (PreW G sz (mO G am as_ ar ac an ath ah m_am ++ (tO G an t_an ++ (pO G an p_an ++ []))))) (Ans G out.1 (va_A (mO G am as_ ar ac an ath ah m_am ++ (tO G an t_an ++ (pO G an p_an ++ []))) sz) (mO G am as_ ar ac an ath ah out.2 ++ (tO G an t_an ++ (pO G an p_an ++ [])))) 0 0 (va_A (mO G am as_ ar ac an ath ah m_am ++ (tO G an t_an ++ (pO G an p_an ++ []))) sz) := by
  refine Met.into (by decide) (Nat.le_of_ble_eq_true rfl) ?_
  intro p e s m below meth c C hsz ls hl hw
  have hl : lv_has ls 2 [(0, .ref (am 99)), (1, .int x1)] := hl
  clear hsz
  generalize va_A (mO G am as_ ar ac an ath ah m_am ++ (tO G an t_an ++ (pO G an p_an ++ []))) sz = A at hw ⊢
  have hB_16 : ∀ (m_am : Pic), b_X8_total_16 t_an p_an x1  m_am = some out → ∀ (H : Heap) (locs : List Loc), Wd G A s H locs (mO G am as_ ar ac an ath ah m_am ++ (tO G an t_an ++ (pO G an p_an ++ []))) → ∀ ls : Array Slot, lv_has ls 2 [(0, .ref (am 99))] → W p l e ({ frames := 1, cells := 0, slots := 0, locals := 21 }) s m [.ref (am 99), .int x1].toArray below meth c H locs 0 0 (MQ below (Ans G out.1 A (mO G am as_ ar ac an ath ah out.2 ++ (tO G an t_an ++ (pO G an p_an ++ [])))) [.ref (am 99), .int x1].toArray s 0 0 A) (F0 m 16 ls []) := by
    intro m_am hf H locs hw ls hl
    unfold b_X8_total_16 at hf
    refine r_aload0 C hl 0 rfl dX8_total_16 ?_
    refine lv_iconst (v := 1) C.1 C.2.1 dX8_total_17 (by decide) ?_
    obtain ⟨u1, e1, hf⟩ := bx hf
    refine r_callVi (ws' := (mO G am as_ ar ac an ath ah u1.2 ++ (tO G an t_an ++ (pO G an p_an ++ [])))) (As := [.int 1]) (rest := []) C hw hl.1 kX8_refuse ml_X8_63 (c_X8_refuse l G am as_ ar ac an ath ah _ m_am 1 u1 e1) (CutX.take mO_f CutX.none) _ (gx_h mO_o) rfl ⟨rfl, rfl⟩ ⟨Nat.le_of_ble_eq_true rfl, Nat.le_of_ble_eq_true rfl⟩ rfl ⟨Nat.zero_le _, Nat.zero_le _⟩ rfl (Nat.le_of_ble_eq_true rfl) dX8_total_18 (fun H locs hw => ?_)
    exact fin_i C hw (Option.some.inj hf) (fun o => o.1) (fun o => (mO G am as_ ar ac an ath ah o.2 ++ (tO G an t_an ++ (pO G an p_an ++ [])))) rfl rfl dX8_total_21
  unfold f_X8_total at hf
  refine r_aload0 C hl 0 rfl dX8_total_0 ?_
  refine r_get C hw _ (gx_h mO_o) 2 fl_X8_85 rfl dX8_total_1 ?_
  refine lv_if_eq (tgt := 16) C.1 C.2.1 dX8_total_4 (by decide) (fun hc => ?_) (fun hc => ?_)
  · replace hf := ifp hf hc
    exact hB_16  m_am hf _ _ hw _ (lv_sub hl [0] rfl)
  · replace hf := ifn hf hc
    refine r_iload0 C hl 1 rfl dX8_total_7 ?_
    refine lv_if_lt (tgt := 16) C.1 C.2.1 dX8_total_8 (by decide) (fun hc => ?_) (fun hc => ?_)
    · replace hf := ifp hf hc
      exact hB_16  m_am hf _ _ hw _ (lv_sub hl [0] rfl)
    · replace hf := ifn hf hc
      refine r_iload0 C hl 1 rfl dX8_total_11 ?_
      refine lv_iconst (v := 4) C.1 C.2.1 dX8_total_12 (by decide) ?_
      refine lv_icmp_lt (tgt := 22) C.1 C.2.1 dX8_total_13 (by decide) (fun hc => ?_) (fun hc => ?_)
      · replace hf := ifp hf hc
        refine r_aload0 C hl 0 rfl dX8_total_22 ?_
        refine r_aload0 C hl 0 rfl dX8_total_23 ?_
        refine r_get C hw _ (gx_h mO_o) 9 fl_X8_37 rfl dX8_total_24 ?_
        refine r_get C hw _ (gx_t (gx_h tO_o)) 2 fl_X8_105 rfl dX8_total_27 ?_
        refine r_get C hw _ (gx_t (gx_t (gx_h pO_o))) 12 fl_X8_270 rfl dX8_total_30 ?_
        refine r_iload0 C hl 1 rfl dX8_total_33 ?_
        obtain ⟨v2_, e2, hf⟩ := bx hf
        refine r_iald C hw _ (gx_t (gx_t (gx_h pO_g12))) e2 dX8_total_34 ?_
        obtain ⟨u3, e3, hf⟩ := bx hf
        refine r_callVi (ws' := (mO G am as_ ar ac an ath ah u3.2 ++ (tO G an t_an ++ (pO G an p_an ++ [])))) (As := [.int v2_]) (rest := []) C hw hl.1 kX8_answer ml_X8_99 (c_X8_answer l G am as_ ar ac an ath ah _ m_am v2_ u3 e3) (CutX.take mO_f CutX.none) _ (gx_h mO_o) rfl ⟨rfl, rfl⟩ ⟨Nat.le_of_ble_eq_true rfl, Nat.le_of_ble_eq_true rfl⟩ rfl ⟨Nat.zero_le _, Nat.zero_le _⟩ rfl (Nat.le_of_ble_eq_true rfl) dX8_total_35 (fun H locs hw => ?_)
        exact fin_i C hw (Option.some.inj hf) (fun o => o.1) (fun o => (mO G am as_ ar ac an ath ah o.2 ++ (tO G an t_an ++ (pO G an p_an ++ [])))) rfl rfl dX8_total_38
      · replace hf := ifn hf hc
        exact hB_16  m_am hf _ _ hw _ (lv_sub hl [0] rfl)
set_option maxHeartbeats 4000000 in
set_option maxRecDepth 100000 in
theorem c_X8_same (l : Launch) (G : GG) (am : Nat → Nat) (as_ : Nat → Nat) (ar : Nat → Nat) (ac : Nat → Nat) (an : Nat → Nat) (ath : Nat → Nat) (ah : Nat → Nat) (sz : Nat) (m_am : Pic) (t_an : Pic) (p_an : Pic) (x1 : Int32) (x2 : Int32) (out : Int32 × Pic) (hf : f_X8_same m_am t_an p_an x1 x2 = some out) : Met l yX8_same (.code yX8_same cX8_same 3 (some .int) :: BT) ({ frames := 2, cells := 0, slots := 0, locals := 43 }) (va_Pc [.ref (am 99), .int x1, .int x2] (PreW G sz (mO G am as_ ar ac an ath ah m_am ++ (tO G an t_an ++ (pO G an p_an ++ []))))) (Ans G out.1 (va_A (mO G am as_ ar ac an ath ah m_am ++ (tO G an t_an ++ (pO G an p_an ++ []))) sz) (mO G am as_ ar ac an ath ah out.2 ++ (tO G an t_an ++ (pO G an p_an ++ [])))) 0 0 (va_A (mO G am as_ ar ac an ath ah m_am ++ (tO G an t_an ++ (pO G an p_an ++ []))) sz) := by
  refine Met.into (by decide) (Nat.le_of_ble_eq_true rfl) ?_
  intro p e s m below meth c C hsz ls hl hw
  have hl : lv_has ls 3 [(0, .ref (am 99)), (1, .int x1), (2, .int x2)] := hl
  clear hsz
  generalize va_A (mO G am as_ ar ac an ath ah m_am ++ (tO G an t_an ++ (pO G an p_an ++ []))) sz = A at hw ⊢
  have hB_16 : ∀ (m_am : Pic), b_X8_same_16 t_an p_an x1 x2  m_am = some out → ∀ (H : Heap) (locs : List Loc), Wd G A s H locs (mO G am as_ ar ac an ath ah m_am ++ (tO G an t_an ++ (pO G an p_an ++ []))) → ∀ ls : Array Slot, lv_has ls 3 [(0, .ref (am 99))] → W p l e ({ frames := 2, cells := 0, slots := 0, locals := 43 }) s m [.ref (am 99), .int x1, .int x2].toArray below meth c H locs 0 0 (MQ below (Ans G out.1 A (mO G am as_ ar ac an ath ah out.2 ++ (tO G an t_an ++ (pO G an p_an ++ [])))) [.ref (am 99), .int x1, .int x2].toArray s 0 0 A) (F0 m 16 ls []) := by
    intro m_am hf H locs hw ls hl
    unfold b_X8_same_16 at hf
    refine r_aload0 C hl 0 rfl dX8_same_16 ?_
    refine lv_iconst (v := 1) C.1 C.2.1 dX8_same_17 (by decide) ?_
    obtain ⟨u2, e2, hf⟩ := bx hf
    refine r_callVi (ws' := (mO G am as_ ar ac an ath ah u2.2 ++ (tO G an t_an ++ (pO G an p_an ++ [])))) (As := [.int 1]) (rest := []) C hw hl.1 kX8_refuse ml_X8_63 (c_X8_refuse l G am as_ ar ac an ath ah _ m_am 1 u2 e2) (CutX.take mO_f CutX.none) _ (gx_h mO_o) rfl ⟨rfl, rfl⟩ ⟨Nat.le_of_ble_eq_true rfl, Nat.le_of_ble_eq_true rfl⟩ rfl ⟨Nat.zero_le _, Nat.zero_le _⟩ rfl (Nat.le_of_ble_eq_true rfl) dX8_same_18 (fun H locs hw => ?_)
    exact fin_i C hw (Option.some.inj hf) (fun o => o.1) (fun o => (mO G am as_ ar ac an ath ah o.2 ++ (tO G an t_an ++ (pO G an p_an ++ [])))) rfl rfl dX8_same_21
  have hB_52 : ∀ (m_am : Pic), b_X8_same_52 t_an p_an x1 x2  m_am = some out → ∀ (H : Heap) (locs : List Loc), Wd G A s H locs (mO G am as_ ar ac an ath ah m_am ++ (tO G an t_an ++ (pO G an p_an ++ []))) → ∀ ls : Array Slot, lv_has ls 3 [(0, .ref (am 99))] → W p l e ({ frames := 2, cells := 0, slots := 0, locals := 43 }) s m [.ref (am 99), .int x1, .int x2].toArray below meth c H locs 0 0 (MQ below (Ans G out.1 A (mO G am as_ ar ac an ath ah out.2 ++ (tO G an t_an ++ (pO G an p_an ++ [])))) [.ref (am 99), .int x1, .int x2].toArray s 0 0 A) (F0 m 52 ls []) := by
    intro m_am hf H locs hw ls hl
    unfold b_X8_same_52 at hf
    refine r_aload0 C hl 0 rfl dX8_same_52 ?_
    refine lv_iconst (v := 5) C.1 C.2.1 dX8_same_53 (by decide) ?_
    obtain ⟨u5, e5, hf⟩ := bx hf
    refine r_callVi (ws' := (mO G am as_ ar ac an ath ah u5.2 ++ (tO G an t_an ++ (pO G an p_an ++ [])))) (As := [.int 5]) (rest := []) C hw hl.1 kX8_refuse ml_X8_63 (c_X8_refuse l G am as_ ar ac an ath ah _ m_am 5 u5 e5) (CutX.take mO_f CutX.none) _ (gx_h mO_o) rfl ⟨rfl, rfl⟩ ⟨Nat.le_of_ble_eq_true rfl, Nat.le_of_ble_eq_true rfl⟩ rfl ⟨Nat.zero_le _, Nat.zero_le _⟩ rfl (Nat.le_of_ble_eq_true rfl) dX8_same_54 (fun H locs hw => ?_)
    exact fin_i C hw (Option.some.inj hf) (fun o => o.1) (fun o => (mO G am as_ ar ac an ath ah o.2 ++ (tO G an t_an ++ (pO G an p_an ++ [])))) rfl rfl dX8_same_57
  have hB_79 : ∀ (m_am : Pic) (t0 : Int32), b_X8_same_79 t_an p_an x1 x2  m_am t0 = some out → ∀ (H : Heap) (locs : List Loc), Wd G A s H locs (mO G am as_ ar ac an ath ah m_am ++ (tO G an t_an ++ (pO G an p_an ++ []))) → ∀ ls : Array Slot, lv_has ls 3 [] → W p l e ({ frames := 2, cells := 0, slots := 0, locals := 43 }) s m [.ref (am 99), .int x1, .int x2].toArray below meth c H locs 0 0 (MQ below (Ans G out.1 A (mO G am as_ ar ac an ath ah out.2 ++ (tO G an t_an ++ (pO G an p_an ++ [])))) [.ref (am 99), .int x1, .int x2].toArray s 0 0 A) (F0 m 79 ls [.int t0, .ref (am 99)]) := by
    intro m_am t0 hf H locs hw ls hl
    unfold b_X8_same_79 at hf
    obtain ⟨u8, e8, hf⟩ := bx hf
    refine r_callVi (ws' := (mO G am as_ ar ac an ath ah u8.2 ++ (tO G an t_an ++ (pO G an p_an ++ [])))) (As := [.int t0]) (rest := []) C hw hl.1 kX8_answer ml_X8_99 (c_X8_answer l G am as_ ar ac an ath ah _ m_am t0 u8 e8) (CutX.take mO_f CutX.none) _ (gx_h mO_o) rfl ⟨rfl, rfl⟩ ⟨Nat.le_of_ble_eq_true rfl, Nat.le_of_ble_eq_true rfl⟩ rfl ⟨Nat.zero_le _, Nat.zero_le _⟩ rfl (Nat.le_of_ble_eq_true rfl) dX8_same_79 (fun H locs hw => ?_)
    exact fin_i C hw (Option.some.inj hf) (fun o => o.1) (fun o => (mO G am as_ ar ac an ath ah o.2 ++ (tO G an t_an ++ (pO G an p_an ++ [])))) rfl rfl dX8_same_82
  unfold f_X8_same at hf
  refine r_aload0 C hl 0 rfl dX8_same_0 ?_
  refine r_iload0 C hl 1 rfl dX8_same_1 ?_
  obtain ⟨u1, e1, hf⟩ := bx hf
  refine r_callVi (ws' := (mO G am as_ ar ac an ath ah m_am ++ (tO G an t_an ++ (pO G an p_an ++ [])))) (As := [.int x1]) (rest := []) C hw hl.1 kX8_noPage ml_X8_247 (c_X8_noPage l G am as_ ar ac an ath ah _ m_am x1 u1 e1) (CutX.take mO_f CutX.none) _ (gx_h mO_o) rfl ⟨rfl, rfl⟩ ⟨Nat.le_of_ble_eq_true rfl, Nat.le_of_ble_eq_true rfl⟩ rfl ⟨Nat.zero_le _, Nat.zero_le _⟩ rfl (Nat.le_of_ble_eq_true rfl) dX8_same_2 (fun H locs hw => ?_)
  refine lv_if_ne (tgt := 16) C.1 C.2.1 dX8_same_5 (by decide) (fun hc => ?_) (fun hc => ?_)
  · replace hf := ifn hf hc
    exact hB_16  m_am hf _ _ hw _ (lv_sub hl [0] rfl)
  · replace hf := ifp hf hc
    refine r_aload0 C hl 0 rfl dX8_same_8 ?_
    refine r_iload0 C hl 2 rfl dX8_same_9 ?_
    obtain ⟨u3, e3, hf⟩ := bx hf
    refine r_callVi (ws' := (mO G am as_ ar ac an ath ah m_am ++ (tO G an t_an ++ (pO G an p_an ++ [])))) (As := [.int x2]) (rest := []) C hw hl.1 kX8_noPage ml_X8_247 (c_X8_noPage l G am as_ ar ac an ath ah _ m_am x2 u3 e3) (CutX.take mO_f CutX.none) _ (gx_h mO_o) rfl ⟨rfl, rfl⟩ ⟨Nat.le_of_ble_eq_true rfl, Nat.le_of_ble_eq_true rfl⟩ rfl ⟨Nat.zero_le _, Nat.zero_le _⟩ rfl (Nat.le_of_ble_eq_true rfl) dX8_same_10 (fun H locs hw => ?_)
    refine lv_if_eq (tgt := 22) C.1 C.2.1 dX8_same_13 (by decide) (fun hc => ?_) (fun hc => ?_)
    · replace hf := ifp hf hc
      refine r_aload0 C hl 0 rfl dX8_same_22 ?_
      refine r_get C hw _ (gx_h mO_o) 9 fl_X8_37 rfl dX8_same_23 ?_
      refine r_get C hw _ (gx_t (gx_h tO_o)) 2 fl_X8_105 rfl dX8_same_26 ?_
      refine r_get C hw _ (gx_t (gx_t (gx_h pO_o))) 4 fl_X8_250 rfl dX8_same_29 ?_
      refine r_iload0 C hl 1 rfl dX8_same_32 ?_
      obtain ⟨v4_, e4, hf⟩ := bx hf
      refine r_iald C hw _ (gx_t (gx_t (gx_h pO_g4))) e4 dX8_same_33 ?_
      refine lv_if_eq (tgt := 52) C.1 C.2.1 dX8_same_34 (by decide) (fun hc => ?_) (fun hc => ?_)
      · replace hf := ifp hf hc
        exact hB_52  m_am hf _ _ hw _ (lv_sub hl [0] rfl)
      · replace hf := ifn hf hc
        refine r_aload0 C hl 0 rfl dX8_same_37 ?_
        refine r_get C hw _ (gx_h mO_o) 9 fl_X8_37 rfl dX8_same_38 ?_
        refine r_get C hw _ (gx_t (gx_h tO_o)) 2 fl_X8_105 rfl dX8_same_41 ?_
        refine r_get C hw _ (gx_t (gx_t (gx_h pO_o))) 4 fl_X8_250 rfl dX8_same_44 ?_
        refine r_iload0 C hl 2 rfl dX8_same_47 ?_
        obtain ⟨v6_, e6, hf⟩ := bx hf
        refine r_iald C hw _ (gx_t (gx_t (gx_h pO_g4))) e6 dX8_same_48 ?_
        refine lv_if_ne (tgt := 58) C.1 C.2.1 dX8_same_49 (by decide) (fun hc => ?_) (fun hc => ?_)
        · replace hf := ifn hf hc
          refine r_aload0 C hl 0 rfl dX8_same_58 ?_
          refine r_aload0 C hl 0 rfl dX8_same_59 ?_
          refine r_get C hw _ (gx_h mO_o) 9 fl_X8_37 rfl dX8_same_60 ?_
          refine r_get C hw _ (gx_t (gx_h tO_o)) 2 fl_X8_105 rfl dX8_same_63 ?_
          refine r_iload0 C hl 1 rfl dX8_same_66 ?_
          refine r_iload0 C hl 2 rfl dX8_same_67 ?_
          obtain ⟨u7, e7, hf⟩ := bx hf
          refine r_callVi (ws' := (mO G am as_ ar ac an ath ah m_am ++ (tO G an t_an ++ (pO G an p_an ++ [])))) (As := [.int x1, .int x2]) (rest := [.ref (am 99)]) C hw hl.1 kX3_likeCells ml_X8_273 (c_X3_likeCells l G an _ p_an x1 x2 u7 e7) (CutX.skip (CutX.skip (CutX.take pO_f CutX.none))) _ (gx_t (gx_t (gx_h pO_o))) rfl ⟨rfl, rfl⟩ ⟨Nat.le_of_ble_eq_true rfl, Nat.le_of_ble_eq_true rfl⟩ rfl ⟨Nat.zero_le _, Nat.zero_le _⟩ rfl (Nat.le_of_ble_eq_true rfl) dX8_same_68 (fun H locs hw => ?_)
          refine lv_if_eq (tgt := 78) C.1 C.2.1 dX8_same_71 (by decide) (fun hc => ?_) (fun hc => ?_)
          · replace hf := ifp hf hc
            refine lv_iconst (v := 0) C.1 C.2.1 dX8_same_78 (by decide) ?_
            exact hB_79  m_am 0 hf _ _ hw _ (lv_sub hl [] rfl)
          · replace hf := ifn hf hc
            refine lv_iconst (v := 1) C.1 C.2.1 dX8_same_74 (by decide) ?_
            refine lv_goto (tgt := 79) C.1 C.2.1 dX8_same_75 (by decide) ?_
            exact hB_79  m_am 1 hf _ _ hw _ (lv_sub hl [] rfl)
        · replace hf := ifp hf hc
          exact hB_52  m_am hf _ _ hw _ (lv_sub hl [0] rfl)
    · replace hf := ifn hf hc
      exact hB_16  m_am hf _ _ hw _ (lv_sub hl [0] rfl)
set_option maxHeartbeats 4000000 in
set_option maxRecDepth 100000 in
theorem c_X8_waste (l : Launch) (G : GG) (am : Nat → Nat) (as_ : Nat → Nat) (ar : Nat → Nat) (ac : Nat → Nat) (an : Nat → Nat) (ath : Nat → Nat) (ah : Nat → Nat) (sz : Nat) (m_am : Pic) (t_an : Pic) (p_an : Pic) (z_an : Pic)  (out : Int32 × Pic) (hf : f_X8_waste m_am t_an p_an z_an = some out) : Met l yX8_waste (.code yX8_waste cX8_waste 1 (some .int) :: BT) ({ frames := 1, cells := 0, slots := 0, locals := 22 }) (va_Pc [.ref (am 99)] (PreW G sz (mO G am as_ ar ac an ath ah m_am ++ (tO G an t_an ++ (pO G an p_an ++ (zO G an z_an ++ [])))))) (Ans G out.1 (va_A (mO G am as_ ar ac an ath ah m_am ++ (tO G an t_an ++ (pO G an p_an ++ (zO G an z_an ++ [])))) sz) (mO G am as_ ar ac an ath ah out.2 ++ (tO G an t_an ++ (pO G an p_an ++ (zO G an z_an ++ []))))) 0 0 (va_A (mO G am as_ ar ac an ath ah m_am ++ (tO G an t_an ++ (pO G an p_an ++ (zO G an z_an ++ [])))) sz) := by
  refine Met.into (by decide) (Nat.le_of_ble_eq_true rfl) ?_
  intro p e s m below meth c C hsz ls hl hw
  have hl : lv_has ls 1 [(0, .ref (am 99))] := hl
  clear hsz
  generalize va_A (mO G am as_ ar ac an ath ah m_am ++ (tO G an t_an ++ (pO G an p_an ++ (zO G an z_an ++ [])))) sz = A at hw ⊢
  unfold f_X8_waste at hf
  refine r_aload0 C hl 0 rfl dX8_waste_0 ?_
  refine r_get C hw _ (gx_h mO_o) 2 fl_X8_85 rfl dX8_waste_1 ?_
  refine lv_if_ne (tgt := 13) C.1 C.2.1 dX8_waste_4 (by decide) (fun hc => ?_) (fun hc => ?_)
  · replace hf := ifn hf hc
    refine r_aload0 C hl 0 rfl dX8_waste_13 ?_
    refine r_aload0 C hl 0 rfl dX8_waste_14 ?_
    refine r_get C hw _ (gx_h mO_o) 9 fl_X8_37 rfl dX8_waste_15 ?_
    refine r_get C hw _ (gx_t (gx_h tO_o)) 2 fl_X8_105 rfl dX8_waste_18 ?_
    refine r_get C hw _ (gx_t (gx_t (gx_h pO_o))) 3 fl_X8_120 rfl dX8_waste_21 ?_
    refine r_get C hw _ (gx_t (gx_t (gx_t (gx_h zO_o)))) 0 fl_X8_124 rfl dX8_waste_24 ?_
    refine lv_bipush (v := 16) C.1 C.2.1 dX8_waste_27 (by decide) ?_
    refine lv_imul C.1 C.2.1 dX8_waste_29 ?_
    refine r_aload0 C hl 0 rfl dX8_waste_30 ?_
    refine r_get C hw _ (gx_h mO_o) 9 fl_X8_37 rfl dX8_waste_31 ?_
    refine r_get C hw _ (gx_t (gx_h tO_o)) 2 fl_X8_105 rfl dX8_waste_34 ?_
    obtain ⟨u1, e1, hf⟩ := bx hf
    refine r_callVi (ws' := (mO G am as_ ar ac an ath ah m_am ++ (tO G an t_an ++ (pO G an p_an ++ (zO G an z_an ++ []))))) (As := []) (rest := [.int ((gS z_an 0) * 16), .ref (am 99)]) C hw hl.1 kX3_unitsTaken ml_X8_138 (c_X3_unitsTaken l G an _ p_an u1 e1) (CutX.skip (CutX.skip (CutX.take pO_f CutX.none))) _ (gx_t (gx_t (gx_h pO_o))) rfl ⟨rfl, rfl⟩ ⟨Nat.le_of_ble_eq_true rfl, Nat.le_of_ble_eq_true rfl⟩ rfl ⟨Nat.zero_le _, Nat.zero_le _⟩ rfl (Nat.le_of_ble_eq_true rfl) dX8_waste_37 (fun H locs hw => ?_)
    refine lv_isub C.1 C.2.1 dX8_waste_40 ?_
    obtain ⟨u2, e2, hf⟩ := bx hf
    refine r_callVi (ws' := (mO G am as_ ar ac an ath ah u2.2 ++ (tO G an t_an ++ (pO G an p_an ++ (zO G an z_an ++ []))))) (As := [.int (((gS z_an 0) * 16) - u1)]) (rest := []) C hw hl.1 kX8_answer ml_X8_99 (c_X8_answer l G am as_ ar ac an ath ah _ m_am (((gS z_an 0) * 16) - u1) u2 e2) (CutX.take mO_f CutX.none) _ (gx_h mO_o) rfl ⟨rfl, rfl⟩ ⟨Nat.le_of_ble_eq_true rfl, Nat.le_of_ble_eq_true rfl⟩ rfl ⟨Nat.zero_le _, Nat.zero_le _⟩ rfl (Nat.le_of_ble_eq_true rfl) dX8_waste_41 (fun H locs hw => ?_)
    exact fin_i C hw (Option.some.inj hf) (fun o => o.1) (fun o => (mO G am as_ ar ac an ath ah o.2 ++ (tO G an t_an ++ (pO G an p_an ++ (zO G an z_an ++ []))))) rfl rfl dX8_waste_44
  · replace hf := ifp hf hc
    refine r_aload0 C hl 0 rfl dX8_waste_7 ?_
    refine lv_iconst (v := 1) C.1 C.2.1 dX8_waste_8 (by decide) ?_
    obtain ⟨u3, e3, hf⟩ := bx hf
    refine r_callVi (ws' := (mO G am as_ ar ac an ath ah u3.2 ++ (tO G an t_an ++ (pO G an p_an ++ (zO G an z_an ++ []))))) (As := [.int 1]) (rest := []) C hw hl.1 kX8_refuse ml_X8_63 (c_X8_refuse l G am as_ ar ac an ath ah _ m_am 1 u3 e3) (CutX.take mO_f CutX.none) _ (gx_h mO_o) rfl ⟨rfl, rfl⟩ ⟨Nat.le_of_ble_eq_true rfl, Nat.le_of_ble_eq_true rfl⟩ rfl ⟨Nat.zero_le _, Nat.zero_le _⟩ rfl (Nat.le_of_ble_eq_true rfl) dX8_waste_9 (fun H locs hw => ?_)
    exact fin_i C hw (Option.some.inj hf) (fun o => o.1) (fun o => (mO G am as_ ar ac an ath ah o.2 ++ (tO G an t_an ++ (pO G an p_an ++ (zO G an z_an ++ []))))) rfl rfl dX8_waste_12
set_option maxHeartbeats 4000000 in
set_option maxRecDepth 100000 in
theorem c_X8_would (l : Launch) (G : GG) (am : Nat → Nat) (as_ : Nat → Nat) (ar : Nat → Nat) (ac : Nat → Nat) (an : Nat → Nat) (ath : Nat → Nat) (ah : Nat → Nat) (sz : Nat) (m_am : Pic) (t_an : Pic) (p_an : Pic) (p_ath : Pic) (z_an : Pic) (z_ath : Pic) (x1 : Int32) (x2 : Int32) (out : Int32 × Pic × Pic × Pic) (hf : f_X8_would m_am t_an p_an p_ath z_an z_ath x1 x2 = some out) : Met l yX8_would (.code yX8_would cX8_would 3 (some .int) :: BT) ({ frames := 6, cells := 0, slots := 0, locals := 134 }) (va_Pc [.ref (am 99), .int x1, .int x2] (PreW G sz (mO G am as_ ar ac an ath ah m_am ++ (tO G an t_an ++ (pO G an p_an ++ (pO G ath p_ath ++ (zO G an z_an ++ (zO G ath z_ath ++ [])))))))) (Ans G out.1 (va_A (mO G am as_ ar ac an ath ah m_am ++ (tO G an t_an ++ (pO G an p_an ++ (pO G ath p_ath ++ (zO G an z_an ++ (zO G ath z_ath ++ [])))))) sz) (mO G am as_ ar ac an ath ah out.2.1 ++ (tO G an t_an ++ (pO G an p_an ++ (pO G ath out.2.2.1 ++ (zO G an z_an ++ (zO G ath out.2.2.2 ++ []))))))) 0 0 (va_A (mO G am as_ ar ac an ath ah m_am ++ (tO G an t_an ++ (pO G an p_an ++ (pO G ath p_ath ++ (zO G an z_an ++ (zO G ath z_ath ++ [])))))) sz) := by
  refine Met.into (by decide) (Nat.le_of_ble_eq_true rfl) ?_
  intro p e s m below meth c C hsz ls hl hw
  have hl : lv_has ls 3 [(0, .ref (am 99)), (1, .int x1), (2, .int x2)] := hl
  clear hsz
  generalize va_A (mO G am as_ ar ac an ath ah m_am ++ (tO G an t_an ++ (pO G an p_an ++ (pO G ath p_ath ++ (zO G an z_an ++ (zO G ath z_ath ++ [])))))) sz = A at hw ⊢
  unfold f_X8_would at hf
  refine r_aload0 C hl 0 rfl dX8_would_0 ?_
  refine r_get C hw _ (gx_h mO_o) 2 fl_X8_85 rfl dX8_would_1 ?_
  refine lv_if_ne (tgt := 13) C.1 C.2.1 dX8_would_4 (by decide) (fun hc => ?_) (fun hc => ?_)
  · replace hf := ifn hf hc
    refine r_iload0 C hl 1 rfl dX8_would_13 ?_
    obtain ⟨u1, e1, hf⟩ := bx hf
    refine r_callSi (ws' := (mO G am as_ ar ac an ath ah m_am ++ (tO G an t_an ++ (pO G an p_an ++ (pO G ath p_ath ++ (zO G an z_an ++ (zO G ath z_ath ++ []))))))) (As := [.int x1]) (rest := []) C hw hl.1 kX8_noLimit ml_X8_277 (c_X8_noLimit l G _ x1 u1 e1) CutX.none ⟨rfl, rfl⟩ ⟨Nat.le_of_ble_eq_true rfl, Nat.le_of_ble_eq_true rfl⟩ rfl ⟨Nat.zero_le _, Nat.zero_le _⟩ rfl (Nat.le_of_ble_eq_true rfl) dX8_would_14 (fun H locs hw => ?_)
    refine lv_if_eq (tgt := 26) C.1 C.2.1 dX8_would_17 (by decide) (fun hc => ?_) (fun hc => ?_)
    · replace hf := ifp hf hc
      refine r_aload0 C hl 0 rfl dX8_would_26 ?_
      refine r_iload0 C hl 2 rfl dX8_would_27 ?_
      obtain ⟨u2, e2, hf⟩ := bx hf
      refine r_callVv (ws' := (mO G am as_ ar ac an ath ah m_am ++ (tO G an t_an ++ (pO G an p_an ++ (pO G ath u2.1 ++ (zO G an z_an ++ (zO G ath u2.2 ++ []))))))) (As := [.int x2]) (rest := []) C hw hl.1 kX8_thinkOfPool ml_X8_280 (c_X8_thinkOfPool l G am as_ ar ac an ath ah _ m_am t_an p_an p_ath z_an z_ath x2 u2 e2) (CutX.take mO_f (CutX.take tO_f (CutX.take pO_f (CutX.take pO_f (CutX.take zO_f (CutX.take zO_f CutX.none)))))) _ (gx_h mO_o) rfl ⟨rfl, rfl⟩ ⟨Nat.le_of_ble_eq_true rfl, Nat.le_of_ble_eq_true rfl⟩ rfl ⟨Nat.zero_le _, Nat.zero_le _⟩ rfl (Nat.le_of_ble_eq_true rfl) dX8_would_28 (fun H locs hw => ?_)
      refine r_aload0 C hl 0 rfl dX8_would_31 ?_
      refine r_aload0 C hl 0 rfl dX8_would_32 ?_
      refine r_get C hw _ (gx_h mO_o) 10 fl_X8_44 rfl dX8_would_33 ?_
      refine r_iload0 C hl 1 rfl dX8_would_36 ?_
      obtain ⟨u3, e3, hf⟩ := bx hf
      refine r_callVi (ws' := (mO G am as_ ar ac an ath ah m_am ++ (tO G an t_an ++ (pO G an p_an ++ (pO G ath u3.2.1 ++ (zO G an z_an ++ (zO G ath u3.2.2 ++ []))))))) (As := [.int x1]) (rest := [.ref (am 99)]) C hw hl.1 kX3_changeLimit ml_X8_284 (c_X3_changeLimit l G ath _ u2.1 u2.2 x1 u3 e3) (CutX.skip (CutX.skip (CutX.skip (CutX.take pO_f (CutX.skip (CutX.take zO_f CutX.none)))))) _ (gx_t (gx_t (gx_t (gx_h pO_o)))) rfl ⟨rfl, rfl⟩ ⟨Nat.le_of_ble_eq_true rfl, Nat.le_of_ble_eq_true rfl⟩ rfl ⟨Nat.zero_le _, Nat.zero_le _⟩ rfl (Nat.le_of_ble_eq_true rfl) dX8_would_37 (fun H locs hw => ?_)
      obtain ⟨u4, e4, hf⟩ := bx hf
      refine r_callVi (ws' := (mO G am as_ ar ac an ath ah u4.2 ++ (tO G an t_an ++ (pO G an p_an ++ (pO G ath u3.2.1 ++ (zO G an z_an ++ (zO G ath u3.2.2 ++ []))))))) (As := [.int u3.1]) (rest := []) C hw hl.1 kX8_answer ml_X8_99 (c_X8_answer l G am as_ ar ac an ath ah _ m_am u3.1 u4 e4) (CutX.take mO_f CutX.none) _ (gx_h mO_o) rfl ⟨rfl, rfl⟩ ⟨Nat.le_of_ble_eq_true rfl, Nat.le_of_ble_eq_true rfl⟩ rfl ⟨Nat.zero_le _, Nat.zero_le _⟩ rfl (Nat.le_of_ble_eq_true rfl) dX8_would_40 (fun H locs hw => ?_)
      exact fin_i C hw (Option.some.inj hf) (fun o => o.1) (fun o => (mO G am as_ ar ac an ath ah o.2.1 ++ (tO G an t_an ++ (pO G an p_an ++ (pO G ath o.2.2.1 ++ (zO G an z_an ++ (zO G ath o.2.2.2 ++ []))))))) rfl rfl dX8_would_43
    · replace hf := ifn hf hc
      refine r_aload0 C hl 0 rfl dX8_would_20 ?_
      refine lv_iconst (v := 2) C.1 C.2.1 dX8_would_21 (by decide) ?_
      obtain ⟨u5, e5, hf⟩ := bx hf
      refine r_callVi (ws' := (mO G am as_ ar ac an ath ah u5.2 ++ (tO G an t_an ++ (pO G an p_an ++ (pO G ath p_ath ++ (zO G an z_an ++ (zO G ath z_ath ++ []))))))) (As := [.int 2]) (rest := []) C hw hl.1 kX8_refuse ml_X8_63 (c_X8_refuse l G am as_ ar ac an ath ah _ m_am 2 u5 e5) (CutX.take mO_f CutX.none) _ (gx_h mO_o) rfl ⟨rfl, rfl⟩ ⟨Nat.le_of_ble_eq_true rfl, Nat.le_of_ble_eq_true rfl⟩ rfl ⟨Nat.zero_le _, Nat.zero_le _⟩ rfl (Nat.le_of_ble_eq_true rfl) dX8_would_22 (fun H locs hw => ?_)
      exact fin_i C hw (Option.some.inj hf) (fun o => o.1) (fun o => (mO G am as_ ar ac an ath ah o.2.1 ++ (tO G an t_an ++ (pO G an p_an ++ (pO G ath o.2.2.1 ++ (zO G an z_an ++ (zO G ath o.2.2.2 ++ []))))))) rfl rfl dX8_would_25
  · replace hf := ifp hf hc
    refine r_aload0 C hl 0 rfl dX8_would_7 ?_
    refine lv_iconst (v := 1) C.1 C.2.1 dX8_would_8 (by decide) ?_
    obtain ⟨u6, e6, hf⟩ := bx hf
    refine r_callVi (ws' := (mO G am as_ ar ac an ath ah u6.2 ++ (tO G an t_an ++ (pO G an p_an ++ (pO G ath p_ath ++ (zO G an z_an ++ (zO G ath z_ath ++ []))))))) (As := [.int 1]) (rest := []) C hw hl.1 kX8_refuse ml_X8_63 (c_X8_refuse l G am as_ ar ac an ath ah _ m_am 1 u6 e6) (CutX.take mO_f CutX.none) _ (gx_h mO_o) rfl ⟨rfl, rfl⟩ ⟨Nat.le_of_ble_eq_true rfl, Nat.le_of_ble_eq_true rfl⟩ rfl ⟨Nat.zero_le _, Nat.zero_le _⟩ rfl (Nat.le_of_ble_eq_true rfl) dX8_would_9 (fun H locs hw => ?_)
    exact fin_i C hw (Option.some.inj hf) (fun o => o.1) (fun o => (mO G am as_ ar ac an ath ah o.2.1 ++ (tO G an t_an ++ (pO G an p_an ++ (pO G ath o.2.2.1 ++ (zO G an z_an ++ (zO G ath o.2.2.2 ++ []))))))) rfl rfl dX8_would_12
