set_option maxHeartbeats 4000000 in
set_option maxRecDepth 100000 in
theorem c_X8_pushes (l : Launch) (G : GG) (am : Nat → Nat) (as_ : Nat → Nat) (ar : Nat → Nat) (ac : Nat → Nat) (an : Nat → Nat) (ath : Nat → Nat) (ah : Nat → Nat) (sz : Nat) (m_am : Pic) (s_as_ : Pic) (t_an : Pic) (p_an : Pic) (p_ath : Pic) (z_an : Pic) (z_ath : Pic) (e_an : Pic) (x1 : Int32) (x2 : Int32) (out : Int32 × Pic × Pic × Pic) (hf : f_X8_pushes m_am s_as_ t_an p_an p_ath z_an z_ath e_an x1 x2 = some out) : Met l yX8_pushes (.code yX8_pushes cX8_pushes 3 (some .int) :: BT) ({ frames := 6, cells := 0, slots := 0, locals := 139 }) (va_Pc [.ref (am 99), .int x1, .int x2] (PreW G sz (mO G am as_ ar ac an ath ah m_am ++ (sO G as_ s_as_ ++ (tO G an t_an ++ (pO G an p_an ++ (pO G ath p_ath ++ (zO G an z_an ++ (zO G ath z_ath ++ (eO G an e_an ++ [])))))))))) (Ans G out.1 (va_A (mO G am as_ ar ac an ath ah m_am ++ (sO G as_ s_as_ ++ (tO G an t_an ++ (pO G an p_an ++ (pO G ath p_ath ++ (zO G an z_an ++ (zO G ath z_ath ++ (eO G an e_an ++ [])))))))) sz) (mO G am as_ ar ac an ath ah out.2.1 ++ (sO G as_ s_as_ ++ (tO G an t_an ++ (pO G an p_an ++ (pO G ath out.2.2.1 ++ (zO G an z_an ++ (zO G ath out.2.2.2 ++ (eO G an e_an ++ []))))))))) 0 0 (va_A (mO G am as_ ar ac an ath ah m_am ++ (sO G as_ s_as_ ++ (tO G an t_an ++ (pO G an p_an ++ (pO G ath p_ath ++ (zO G an z_an ++ (zO G ath z_ath ++ (eO G an e_an ++ [])))))))) sz) := by
  refine Met.into (by decide) (Nat.le_of_ble_eq_true rfl) ?_
  intro p e s m below meth c C hsz ls hl hw
  have hl : lv_has ls 3 [(0, .ref (am 99)), (1, .int x1), (2, .int x2)] := hl
  clear hsz
  generalize va_A (mO G am as_ ar ac an ath ah m_am ++ (sO G as_ s_as_ ++ (tO G an t_an ++ (pO G an p_an ++ (pO G ath p_ath ++ (zO G an z_an ++ (zO G ath z_ath ++ (eO G an e_an ++ [])))))))) sz = A at hw ⊢
  have hB_16 : ∀ (m_am : Pic) (p_ath : Pic) (z_ath : Pic), b_X8_pushes_16 s_as_ t_an p_an z_an e_an x1 x2  m_am p_ath z_ath = some out → ∀ (H : Heap) (locs : List Loc), Wd G A s H locs (mO G am as_ ar ac an ath ah m_am ++ (sO G as_ s_as_ ++ (tO G an t_an ++ (pO G an p_an ++ (pO G ath p_ath ++ (zO G an z_an ++ (zO G ath z_ath ++ (eO G an e_an ++ [])))))))) → ∀ ls : Array Slot, lv_has ls 3 [(0, .ref (am 99))] → W p l e ({ frames := 6, cells := 0, slots := 0, locals := 139 }) s m [.ref (am 99), .int x1, .int x2].toArray below meth c H locs 0 0 (MQ below (Ans G out.1 A (mO G am as_ ar ac an ath ah out.2.1 ++ (sO G as_ s_as_ ++ (tO G an t_an ++ (pO G an p_an ++ (pO G ath out.2.2.1 ++ (zO G an z_an ++ (zO G ath out.2.2.2 ++ (eO G an e_an ++ []))))))))) [.ref (am 99), .int x1, .int x2].toArray s 0 0 A) (F0 m 16 ls []) := by
    intro m_am p_ath z_ath hf H locs hw ls hl
    unfold b_X8_pushes_16 at hf
    refine r_aload0 C hl 0 rfl dX8_pushes_16 ?_
    refine lv_iconst (v := 1) C.1 C.2.1 dX8_pushes_17 (by decide) ?_
    obtain ⟨u2, e2, hf⟩ := bx hf
    refine r_callVi (ws' := (mO G am as_ ar ac an ath ah u2.2 ++ (sO G as_ s_as_ ++ (tO G an t_an ++ (pO G an p_an ++ (pO G ath p_ath ++ (zO G an z_an ++ (zO G ath z_ath ++ (eO G an e_an ++ []))))))))) (As := [.int 1]) (rest := []) C hw hl.1 kX8_refuse ml_X8_63 (c_X8_refuse l G am as_ ar ac an ath ah _ m_am 1 u2 e2) (CutX.take mO_f CutX.none) _ (gx_h mO_o) rfl ⟨rfl, rfl⟩ ⟨Nat.le_of_ble_eq_true rfl, Nat.le_of_ble_eq_true rfl⟩ rfl ⟨Nat.zero_le _, Nat.zero_le _⟩ rfl (Nat.le_of_ble_eq_true rfl) dX8_pushes_18 (fun H locs hw => ?_)
    exact fin_i C hw (Option.some.inj hf) (fun o => o.1) (fun o => (mO G am as_ ar ac an ath ah o.2.1 ++ (sO G as_ s_as_ ++ (tO G an t_an ++ (pO G an p_an ++ (pO G ath o.2.2.1 ++ (zO G an z_an ++ (zO G ath o.2.2.2 ++ (eO G an e_an ++ []))))))))) rfl rfl dX8_pushes_21
  unfold f_X8_pushes at hf
  refine r_aload0 C hl 0 rfl dX8_pushes_0 ?_
  refine r_iload0 C hl 1 rfl dX8_pushes_1 ?_
  obtain ⟨u1, e1, hf⟩ := bx hf
  refine r_callVi (ws' := (mO G am as_ ar ac an ath ah m_am ++ (sO G as_ s_as_ ++ (tO G an t_an ++ (pO G an p_an ++ (pO G ath p_ath ++ (zO G an z_an ++ (zO G ath z_ath ++ (eO G an e_an ++ []))))))))) (As := [.int x1]) (rest := []) C hw hl.1 kX8_noPage ml_X8_247 (c_X8_noPage l G am as_ ar ac an ath ah _ m_am x1 u1 e1) (CutX.take mO_f CutX.none) _ (gx_h mO_o) rfl ⟨rfl, rfl⟩ ⟨Nat.le_of_ble_eq_true rfl, Nat.le_of_ble_eq_true rfl⟩ rfl ⟨Nat.zero_le _, Nat.zero_le _⟩ rfl (Nat.le_of_ble_eq_true rfl) dX8_pushes_2 (fun H locs hw => ?_)
  refine lv_if_ne (tgt := 16) C.1 C.2.1 dX8_pushes_5 (by decide) (fun hc => ?_) (fun hc => ?_)
  · replace hf := ifn hf hc
    exact hB_16  m_am p_ath z_ath hf _ _ hw _ (lv_sub hl [0] rfl)
  · replace hf := ifp hf hc
    refine r_aload0 C hl 0 rfl dX8_pushes_8 ?_
    refine r_iload0 C hl 2 rfl dX8_pushes_9 ?_
    obtain ⟨u3, e3, hf⟩ := bx hf
    refine r_callVi (ws' := (mO G am as_ ar ac an ath ah m_am ++ (sO G as_ s_as_ ++ (tO G an t_an ++ (pO G an p_an ++ (pO G ath p_ath ++ (zO G an z_an ++ (zO G ath z_ath ++ (eO G an e_an ++ []))))))))) (As := [.int x2]) (rest := []) C hw hl.1 kX8_noData ml_X8_141 (c_X8_noData l G am as_ ar ac an ath ah _ m_am s_as_ x2 u3 e3) (CutX.take mO_f (CutX.take sO_f CutX.none)) _ (gx_h mO_o) rfl ⟨rfl, rfl⟩ ⟨Nat.le_of_ble_eq_true rfl, Nat.le_of_ble_eq_true rfl⟩ rfl ⟨Nat.zero_le _, Nat.zero_le _⟩ rfl (Nat.le_of_ble_eq_true rfl) dX8_pushes_10 (fun H locs hw => ?_)
    refine lv_if_eq (tgt := 22) C.1 C.2.1 dX8_pushes_13 (by decide) (fun hc => ?_) (fun hc => ?_)
    · replace hf := ifp hf hc
      refine r_aload0 C hl 0 rfl dX8_pushes_22 ?_
      refine r_iload0 C hl 1 rfl dX8_pushes_23 ?_
      refine r_iload0 C hl 2 rfl dX8_pushes_24 ?_
      obtain ⟨u4, e4, hf⟩ := bx hf
      refine r_callVv (ws' := (mO G am as_ ar ac an ath ah m_am ++ (sO G as_ s_as_ ++ (tO G an t_an ++ (pO G an p_an ++ (pO G ath u4.1 ++ (zO G an z_an ++ (zO G ath u4.2 ++ (eO G an e_an ++ []))))))))) (As := [.int x1, .int x2]) (rest := []) C hw hl.1 kX8_thinkOfStoring ml_X8_298 (c_X8_thinkOfStoring l G am as_ ar ac an ath ah _ m_am t_an p_an p_ath z_an z_ath e_an x1 x2 u4 e4) (CutX.take mO_f (CutX.skip (CutX.take tO_f (CutX.take pO_f (CutX.take pO_f (CutX.take zO_f (CutX.take zO_f (CutX.take eO_f CutX.none)))))))) _ (gx_h mO_o) rfl ⟨rfl, rfl⟩ ⟨Nat.le_of_ble_eq_true rfl, Nat.le_of_ble_eq_true rfl⟩ rfl ⟨Nat.zero_le _, Nat.zero_le _⟩ rfl (Nat.le_of_ble_eq_true rfl) dX8_pushes_25 (fun H locs hw => ?_)
      refine r_aload0 C hl 0 rfl dX8_pushes_28 ?_
      refine r_aload0 C hl 0 rfl dX8_pushes_29 ?_
      refine r_get C hw _ (gx_h mO_o) 10 fl_X8_44 rfl dX8_pushes_30 ?_
      refine r_get C hw _ (gx_t (gx_t (gx_t (gx_t (gx_h pO_o))))) 14 fl_X8_302 rfl dX8_pushes_33 ?_
      obtain ⟨u5, e5, hf⟩ := bx hf
      refine r_callVi (ws' := (mO G am as_ ar ac an ath ah u5.2 ++ (sO G as_ s_as_ ++ (tO G an t_an ++ (pO G an p_an ++ (pO G ath u4.1 ++ (zO G an z_an ++ (zO G ath u4.2 ++ (eO G an e_an ++ []))))))))) (As := [.int (gS u4.1 14)]) (rest := []) C hw hl.1 kX8_answer ml_X8_99 (c_X8_answer l G am as_ ar ac an ath ah _ m_am (gS u4.1 14) u5 e5) (CutX.take mO_f CutX.none) _ (gx_h mO_o) rfl ⟨rfl, rfl⟩ ⟨Nat.le_of_ble_eq_true rfl, Nat.le_of_ble_eq_true rfl⟩ rfl ⟨Nat.zero_le _, Nat.zero_le _⟩ rfl (Nat.le_of_ble_eq_true rfl) dX8_pushes_36 (fun H locs hw => ?_)
      exact fin_i C hw (Option.some.inj hf) (fun o => o.1) (fun o => (mO G am as_ ar ac an ath ah o.2.1 ++ (sO G as_ s_as_ ++ (tO G an t_an ++ (pO G an p_an ++ (pO G ath o.2.2.1 ++ (zO G an z_an ++ (zO G ath o.2.2.2 ++ (eO G an e_an ++ []))))))))) rfl rfl dX8_pushes_39
    · replace hf := ifn hf hc
      exact hB_16  m_am p_ath z_ath hf _ _ hw _ (lv_sub hl [0] rfl)
set_option maxHeartbeats 4000000 in
set_option maxRecDepth 100000 in
theorem c_X8_pushed (l : Launch) (G : GG) (am : Nat → Nat) (as_ : Nat → Nat) (ar : Nat → Nat) (ac : Nat → Nat) (an : Nat → Nat) (ath : Nat → Nat) (ah : Nat → Nat) (sz : Nat) (m_am : Pic) (s_as_ : Pic) (t_an : Pic) (p_an : Pic) (p_ath : Pic) (z_an : Pic) (z_ath : Pic) (e_an : Pic) (x1 : Int32) (x2 : Int32) (x3 : Int32) (out : Int32 × Pic × Pic × Pic) (hf : f_X8_pushed m_am s_as_ t_an p_an p_ath z_an z_ath e_an x1 x2 x3 = some out) : Met l yX8_pushed (.code yX8_pushed cX8_pushed 4 (some .int) :: BT) ({ frames := 6, cells := 0, slots := 0, locals := 139 }) (va_Pc [.ref (am 99), .int x1, .int x2, .int x3] (PreW G sz (mO G am as_ ar ac an ath ah m_am ++ (sO G as_ s_as_ ++ (tO G an t_an ++ (pO G an p_an ++ (pO G ath p_ath ++ (zO G an z_an ++ (zO G ath z_ath ++ (eO G an e_an ++ [])))))))))) (Ans G out.1 (va_A (mO G am as_ ar ac an ath ah m_am ++ (sO G as_ s_as_ ++ (tO G an t_an ++ (pO G an p_an ++ (pO G ath p_ath ++ (zO G an z_an ++ (zO G ath z_ath ++ (eO G an e_an ++ [])))))))) sz) (mO G am as_ ar ac an ath ah out.2.1 ++ (sO G as_ s_as_ ++ (tO G an t_an ++ (pO G an p_an ++ (pO G ath out.2.2.1 ++ (zO G an z_an ++ (zO G ath out.2.2.2 ++ (eO G an e_an ++ []))))))))) 0 0 (va_A (mO G am as_ ar ac an ath ah m_am ++ (sO G as_ s_as_ ++ (tO G an t_an ++ (pO G an p_an ++ (pO G ath p_ath ++ (zO G an z_an ++ (zO G ath z_ath ++ (eO G an e_an ++ [])))))))) sz) := by
  refine Met.into (by decide) (Nat.le_of_ble_eq_true rfl) ?_
  intro p e s m below meth c C hsz ls hl hw
  have hl : lv_has ls 4 [(0, .ref (am 99)), (1, .int x1), (2, .int x2), (3, .int x3)] := hl
  clear hsz
  generalize va_A (mO G am as_ ar ac an ath ah m_am ++ (sO G as_ s_as_ ++ (tO G an t_an ++ (pO G an p_an ++ (pO G ath p_ath ++ (zO G an z_an ++ (zO G ath z_ath ++ (eO G an e_an ++ [])))))))) sz = A at hw ⊢
  have hB_16 : ∀ (m_am : Pic) (p_ath : Pic) (z_ath : Pic), b_X8_pushed_16 s_as_ t_an p_an z_an e_an x1 x2 x3  m_am p_ath z_ath = some out → ∀ (H : Heap) (locs : List Loc), Wd G A s H locs (mO G am as_ ar ac an ath ah m_am ++ (sO G as_ s_as_ ++ (tO G an t_an ++ (pO G an p_an ++ (pO G ath p_ath ++ (zO G an z_an ++ (zO G ath z_ath ++ (eO G an e_an ++ [])))))))) → ∀ ls : Array Slot, lv_has ls 4 [(0, .ref (am 99))] → W p l e ({ frames := 6, cells := 0, slots := 0, locals := 139 }) s m [.ref (am 99), .int x1, .int x2, .int x3].toArray below meth c H locs 0 0 (MQ below (Ans G out.1 A (mO G am as_ ar ac an ath ah out.2.1 ++ (sO G as_ s_as_ ++ (tO G an t_an ++ (pO G an p_an ++ (pO G ath out.2.2.1 ++ (zO G an z_an ++ (zO G ath out.2.2.2 ++ (eO G an e_an ++ []))))))))) [.ref (am 99), .int x1, .int x2, .int x3].toArray s 0 0 A) (F0 m 16 ls []) := by
    intro m_am p_ath z_ath hf H locs hw ls hl
    unfold b_X8_pushed_16 at hf
    refine r_aload0 C hl 0 rfl dX8_pushed_16 ?_
    refine lv_iconst (v := 1) C.1 C.2.1 dX8_pushed_17 (by decide) ?_
    obtain ⟨u2, e2, hf⟩ := bx hf
    refine r_callVi (ws' := (mO G am as_ ar ac an ath ah u2.2 ++ (sO G as_ s_as_ ++ (tO G an t_an ++ (pO G an p_an ++ (pO G ath p_ath ++ (zO G an z_an ++ (zO G ath z_ath ++ (eO G an e_an ++ []))))))))) (As := [.int 1]) (rest := []) C hw hl.1 kX8_refuse ml_X8_63 (c_X8_refuse l G am as_ ar ac an ath ah _ m_am 1 u2 e2) (CutX.take mO_f CutX.none) _ (gx_h mO_o) rfl ⟨rfl, rfl⟩ ⟨Nat.le_of_ble_eq_true rfl, Nat.le_of_ble_eq_true rfl⟩ rfl ⟨Nat.zero_le _, Nat.zero_le _⟩ rfl (Nat.le_of_ble_eq_true rfl) dX8_pushed_18 (fun H locs hw => ?_)
    exact fin_i C hw (Option.some.inj hf) (fun o => o.1) (fun o => (mO G am as_ ar ac an ath ah o.2.1 ++ (sO G as_ s_as_ ++ (tO G an t_an ++ (pO G an p_an ++ (pO G ath o.2.2.1 ++ (zO G an z_an ++ (zO G ath o.2.2.2 ++ (eO G an e_an ++ []))))))))) rfl rfl dX8_pushed_21
  have hB_43 : ∀ (m_am : Pic) (p_ath : Pic) (z_ath : Pic), b_X8_pushed_43 s_as_ t_an p_an z_an e_an x1 x2 x3  m_am p_ath z_ath = some out → ∀ (H : Heap) (locs : List Loc), Wd G A s H locs (mO G am as_ ar ac an ath ah m_am ++ (sO G as_ s_as_ ++ (tO G an t_an ++ (pO G an p_an ++ (pO G ath p_ath ++ (zO G an z_an ++ (zO G ath z_ath ++ (eO G an e_an ++ [])))))))) → ∀ ls : Array Slot, lv_has ls 4 [(0, .ref (am 99))] → W p l e ({ frames := 6, cells := 0, slots := 0, locals := 139 }) s m [.ref (am 99), .int x1, .int x2, .int x3].toArray below meth c H locs 0 0 (MQ below (Ans G out.1 A (mO G am as_ ar ac an ath ah out.2.1 ++ (sO G as_ s_as_ ++ (tO G an t_an ++ (pO G an p_an ++ (pO G ath out.2.2.1 ++ (zO G an z_an ++ (zO G ath out.2.2.2 ++ (eO G an e_an ++ []))))))))) [.ref (am 99), .int x1, .int x2, .int x3].toArray s 0 0 A) (F0 m 43 ls []) := by
    intro m_am p_ath z_ath hf H locs hw ls hl
    unfold b_X8_pushed_43 at hf
    refine r_aload0 C hl 0 rfl dX8_pushed_43 ?_
    refine lv_iconst (v := 1) C.1 C.2.1 dX8_pushed_44 (by decide) ?_
    obtain ⟨u5, e5, hf⟩ := bx hf
    refine r_callVi (ws' := (mO G am as_ ar ac an ath ah u5.2 ++ (sO G as_ s_as_ ++ (tO G an t_an ++ (pO G an p_an ++ (pO G ath p_ath ++ (zO G an z_an ++ (zO G ath z_ath ++ (eO G an e_an ++ []))))))))) (As := [.int 1]) (rest := []) C hw hl.1 kX8_refuse ml_X8_63 (c_X8_refuse l G am as_ ar ac an ath ah _ m_am 1 u5 e5) (CutX.take mO_f CutX.none) _ (gx_h mO_o) rfl ⟨rfl, rfl⟩ ⟨Nat.le_of_ble_eq_true rfl, Nat.le_of_ble_eq_true rfl⟩ rfl ⟨Nat.zero_le _, Nat.zero_le _⟩ rfl (Nat.le_of_ble_eq_true rfl) dX8_pushed_45 (fun H locs hw => ?_)
    exact fin_i C hw (Option.some.inj hf) (fun o => o.1) (fun o => (mO G am as_ ar ac an ath ah o.2.1 ++ (sO G as_ s_as_ ++ (tO G an t_an ++ (pO G an p_an ++ (pO G ath o.2.2.1 ++ (zO G an z_an ++ (zO G ath o.2.2.2 ++ (eO G an e_an ++ []))))))))) rfl rfl dX8_pushed_48
  unfold f_X8_pushed at hf
  refine r_aload0 C hl 0 rfl dX8_pushed_0 ?_
  refine r_iload0 C hl 1 rfl dX8_pushed_1 ?_
  obtain ⟨u1, e1, hf⟩ := bx hf
  refine r_callVi (ws' := (mO G am as_ ar ac an ath ah m_am ++ (sO G as_ s_as_ ++ (tO G an t_an ++ (pO G an p_an ++ (pO G ath p_ath ++ (zO G an z_an ++ (zO G ath z_ath ++ (eO G an e_an ++ []))))))))) (As := [.int x1]) (rest := []) C hw hl.1 kX8_noPage ml_X8_247 (c_X8_noPage l G am as_ ar ac an ath ah _ m_am x1 u1 e1) (CutX.take mO_f CutX.none) _ (gx_h mO_o) rfl ⟨rfl, rfl⟩ ⟨Nat.le_of_ble_eq_true rfl, Nat.le_of_ble_eq_true rfl⟩ rfl ⟨Nat.zero_le _, Nat.zero_le _⟩ rfl (Nat.le_of_ble_eq_true rfl) dX8_pushed_2 (fun H locs hw => ?_)
  refine lv_if_ne (tgt := 16) C.1 C.2.1 dX8_pushed_5 (by decide) (fun hc => ?_) (fun hc => ?_)
  · replace hf := ifn hf hc
    exact hB_16  m_am p_ath z_ath hf _ _ hw _ (lv_sub hl [0] rfl)
  · replace hf := ifp hf hc
    refine r_aload0 C hl 0 rfl dX8_pushed_8 ?_
    refine r_iload0 C hl 2 rfl dX8_pushed_9 ?_
    obtain ⟨u3, e3, hf⟩ := bx hf
    refine r_callVi (ws' := (mO G am as_ ar ac an ath ah m_am ++ (sO G as_ s_as_ ++ (tO G an t_an ++ (pO G an p_an ++ (pO G ath p_ath ++ (zO G an z_an ++ (zO G ath z_ath ++ (eO G an e_an ++ []))))))))) (As := [.int x2]) (rest := []) C hw hl.1 kX8_noData ml_X8_141 (c_X8_noData l G am as_ ar ac an ath ah _ m_am s_as_ x2 u3 e3) (CutX.take mO_f (CutX.take sO_f CutX.none)) _ (gx_h mO_o) rfl ⟨rfl, rfl⟩ ⟨Nat.le_of_ble_eq_true rfl, Nat.le_of_ble_eq_true rfl⟩ rfl ⟨Nat.zero_le _, Nat.zero_le _⟩ rfl (Nat.le_of_ble_eq_true rfl) dX8_pushed_10 (fun H locs hw => ?_)
    refine lv_if_eq (tgt := 22) C.1 C.2.1 dX8_pushed_13 (by decide) (fun hc => ?_) (fun hc => ?_)
    · replace hf := ifp hf hc
      refine r_aload0 C hl 0 rfl dX8_pushed_22 ?_
      refine r_iload0 C hl 1 rfl dX8_pushed_23 ?_
      refine r_iload0 C hl 2 rfl dX8_pushed_24 ?_
      obtain ⟨u4, e4, hf⟩ := bx hf
      refine r_callVv (ws' := (mO G am as_ ar ac an ath ah m_am ++ (sO G as_ s_as_ ++ (tO G an t_an ++ (pO G an p_an ++ (pO G ath u4.1 ++ (zO G an z_an ++ (zO G ath u4.2 ++ (eO G an e_an ++ []))))))))) (As := [.int x1, .int x2]) (rest := []) C hw hl.1 kX8_thinkOfStoring ml_X8_298 (c_X8_thinkOfStoring l G am as_ ar ac an ath ah _ m_am t_an p_an p_ath z_an z_ath e_an x1 x2 u4 e4) (CutX.take mO_f (CutX.skip (CutX.take tO_f (CutX.take pO_f (CutX.take pO_f (CutX.take zO_f (CutX.take zO_f (CutX.take eO_f CutX.none)))))))) _ (gx_h mO_o) rfl ⟨rfl, rfl⟩ ⟨Nat.le_of_ble_eq_true rfl, Nat.le_of_ble_eq_true rfl⟩ rfl ⟨Nat.zero_le _, Nat.zero_le _⟩ rfl (Nat.le_of_ble_eq_true rfl) dX8_pushed_25 (fun H locs hw => ?_)
      refine r_iload0 C hl 3 rfl dX8_pushed_28 ?_
      refine lv_if_lt (tgt := 43) C.1 C.2.1 dX8_pushed_29 (by decide) (fun hc => ?_) (fun hc => ?_)
      · replace hf := ifp hf hc
        exact hB_43  m_am u4.1 u4.2 hf _ _ hw _ (lv_sub hl [0] rfl)
      · replace hf := ifn hf hc
        refine r_iload0 C hl 3 rfl dX8_pushed_32 ?_
        refine r_aload0 C hl 0 rfl dX8_pushed_33 ?_
        refine r_get C hw _ (gx_h mO_o) 10 fl_X8_44 rfl dX8_pushed_34 ?_
        refine r_get C hw _ (gx_t (gx_t (gx_t (gx_t (gx_h pO_o))))) 14 fl_X8_302 rfl dX8_pushed_37 ?_
        refine lv_icmp_lt (tgt := 49) C.1 C.2.1 dX8_pushed_40 (by decide) (fun hc => ?_) (fun hc => ?_)
        · replace hf := ifp hf hc
          refine r_aload0 C hl 0 rfl dX8_pushed_49 ?_
          refine r_aload0 C hl 0 rfl dX8_pushed_50 ?_
          refine r_get C hw _ (gx_h mO_o) 10 fl_X8_44 rfl dX8_pushed_51 ?_
          refine r_get C hw _ (gx_t (gx_t (gx_t (gx_t (gx_h pO_o))))) 13 fl_X8_305 rfl dX8_pushed_54 ?_
          refine r_iload0 C hl 3 rfl dX8_pushed_57 ?_
          obtain ⟨v6_, e6, hf⟩ := bx hf
          refine r_iald C hw _ (gx_t (gx_t (gx_t (gx_t (gx_h pO_g13))))) e6 dX8_pushed_58 ?_
          obtain ⟨u7, e7, hf⟩ := bx hf
          refine r_callVi (ws' := (mO G am as_ ar ac an ath ah u7.2 ++ (sO G as_ s_as_ ++ (tO G an t_an ++ (pO G an p_an ++ (pO G ath u4.1 ++ (zO G an z_an ++ (zO G ath u4.2 ++ (eO G an e_an ++ []))))))))) (As := [.int v6_]) (rest := []) C hw hl.1 kX8_answer ml_X8_99 (c_X8_answer l G am as_ ar ac an ath ah _ m_am v6_ u7 e7) (CutX.take mO_f CutX.none) _ (gx_h mO_o) rfl ⟨rfl, rfl⟩ ⟨Nat.le_of_ble_eq_true rfl, Nat.le_of_ble_eq_true rfl⟩ rfl ⟨Nat.zero_le _, Nat.zero_le _⟩ rfl (Nat.le_of_ble_eq_true rfl) dX8_pushed_59 (fun H locs hw => ?_)
          exact fin_i C hw (Option.some.inj hf) (fun o => o.1) (fun o => (mO G am as_ ar ac an ath ah o.2.1 ++ (sO G as_ s_as_ ++ (tO G an t_an ++ (pO G an p_an ++ (pO G ath o.2.2.1 ++ (zO G an z_an ++ (zO G ath o.2.2.2 ++ (eO G an e_an ++ []))))))))) rfl rfl dX8_pushed_62
        · replace hf := ifn hf hc
          exact hB_43  m_am u4.1 u4.2 hf _ _ hw _ (lv_sub hl [0] rfl)
    · replace hf := ifn hf hc
      exact hB_16  m_am p_ath z_ath hf _ _ hw _ (lv_sub hl [0] rfl)
set_option maxHeartbeats 4000000 in
set_option maxRecDepth 100000 in
theorem c_X8_op (l : Launch) (G : GG) (am : Nat → Nat) (as_ : Nat → Nat) (ar : Nat → Nat) (ac : Nat → Nat) (an : Nat → Nat) (ath : Nat → Nat) (ah : Nat → Nat) (sz : Nat) (m_am : Pic) (s_as_ : Pic) (x1 : Int32) (x2 : Int32) (out : Int32 × Pic) (hf : f_X8_op m_am s_as_ x1 x2 = some out) : Met l yX8_op (.code yX8_op cX8_op 3 (some .int) :: BT) ({ frames := 1, cells := 0, slots := 0, locals := 21 }) (va_Pc [.ref (am 99), .int x1, .int x2] (PreW G sz (mO G am as_ ar ac an ath ah m_am ++ (sO G as_ s_as_ ++ [])))) (Ans G out.1 (va_A (mO G am as_ ar ac an ath ah m_am ++ (sO G as_ s_as_ ++ [])) sz) (mO G am as_ ar ac an ath ah out.2 ++ (sO G as_ s_as_ ++ []))) 0 0 (va_A (mO G am as_ ar ac an ath ah m_am ++ (sO G as_ s_as_ ++ [])) sz) := by
  refine Met.into (by decide) (Nat.le_of_ble_eq_true rfl) ?_
  intro p e s m below meth c C hsz ls hl hw
  have hl : lv_has ls 3 [(0, .ref (am 99)), (1, .int x1), (2, .int x2)] := hl
  clear hsz
  generalize va_A (mO G am as_ ar ac an ath ah m_am ++ (sO G as_ s_as_ ++ [])) sz = A at hw ⊢
  unfold f_X8_op at hf
  refine r_aload0 C hl 0 rfl dX8_op_0 ?_
  refine r_iload0 C hl 1 rfl dX8_op_1 ?_
  obtain ⟨u1, e1, hf⟩ := bx hf
  refine r_callVi (ws' := (mO G am as_ ar ac an ath ah m_am ++ (sO G as_ s_as_ ++ []))) (As := [.int x1]) (rest := []) C hw hl.1 kX8_noOp ml_X8_312 (c_X8_noOp l G am as_ ar ac an ath ah _ m_am s_as_ x1 u1 e1) (CutX.take mO_f (CutX.take sO_f CutX.none)) _ (gx_h mO_o) rfl ⟨rfl, rfl⟩ ⟨Nat.le_of_ble_eq_true rfl, Nat.le_of_ble_eq_true rfl⟩ rfl ⟨Nat.zero_le _, Nat.zero_le _⟩ rfl (Nat.le_of_ble_eq_true rfl) dX8_op_2 (fun H locs hw => ?_)
  refine lv_if_eq (tgt := 14) C.1 C.2.1 dX8_op_5 (by decide) (fun hc => ?_) (fun hc => ?_)
  · replace hf := ifp hf hc
    refine r_iload0 C hl 2 rfl dX8_op_14 ?_
    rcases Decidable.em (x2 = 0) with hc | h0_
    · replace hf := ifp hf hc
      refine lv_tableIn (tgt := 40) C.1 C.2.1 dX8_op_15 (by rw [hc]; decide) (by rw [hc]; decide) (by rw [hc]; rfl) (by decide) ?_
      refine r_aload0 C hl 0 rfl dX8_op_40 ?_
      refine r_aload0 C hl 0 rfl dX8_op_41 ?_
      refine r_get C hw _ (gx_h mO_o) 6 fl_X8_16 rfl dX8_op_42 ?_
      refine r_get C hw _ (gx_t (gx_h sO_o)) 6 fl_X8_315 rfl dX8_op_45 ?_
      refine r_iload0 C hl 1 rfl dX8_op_48 ?_
      obtain ⟨v7_, e7, hf⟩ := bx hf
      refine r_iald C hw _ (gx_t (gx_h sO_g6)) e7 dX8_op_49 ?_
      obtain ⟨u8, e8, hf⟩ := bx hf
      refine r_callVi (ws' := (mO G am as_ ar ac an ath ah u8.2 ++ (sO G as_ s_as_ ++ []))) (As := [.int v7_]) (rest := []) C hw hl.1 kX8_answer ml_X8_99 (c_X8_answer l G am as_ ar ac an ath ah _ m_am v7_ u8 e8) (CutX.take mO_f CutX.none) _ (gx_h mO_o) rfl ⟨rfl, rfl⟩ ⟨Nat.le_of_ble_eq_true rfl, Nat.le_of_ble_eq_true rfl⟩ rfl ⟨Nat.zero_le _, Nat.zero_le _⟩ rfl (Nat.le_of_ble_eq_true rfl) dX8_op_50 (fun H locs hw => ?_)
      exact fin_i C hw (Option.some.inj hf) (fun o => o.1) (fun o => (mO G am as_ ar ac an ath ah o.2 ++ (sO G as_ s_as_ ++ []))) rfl rfl dX8_op_53
    replace hf := ifn hf h0_
    rcases Decidable.em (x2 = 1) with hc | h1_
    · replace hf := ifp hf hc
      refine lv_tableIn (tgt := 54) C.1 C.2.1 dX8_op_15 (by rw [hc]; decide) (by rw [hc]; decide) (by rw [hc]; rfl) (by decide) ?_
      refine r_aload0 C hl 0 rfl dX8_op_54 ?_
      refine r_aload0 C hl 0 rfl dX8_op_55 ?_
      refine r_get C hw _ (gx_h mO_o) 6 fl_X8_16 rfl dX8_op_56 ?_
      refine r_get C hw _ (gx_t (gx_h sO_o)) 7 fl_X8_318 rfl dX8_op_59 ?_
      refine r_iload0 C hl 1 rfl dX8_op_62 ?_
      obtain ⟨v5_, e5, hf⟩ := bx hf
      refine r_iald C hw _ (gx_t (gx_h sO_g7)) e5 dX8_op_63 ?_
      obtain ⟨u6, e6, hf⟩ := bx hf
      refine r_callVi (ws' := (mO G am as_ ar ac an ath ah u6.2 ++ (sO G as_ s_as_ ++ []))) (As := [.int v5_]) (rest := []) C hw hl.1 kX8_answer ml_X8_99 (c_X8_answer l G am as_ ar ac an ath ah _ m_am v5_ u6 e6) (CutX.take mO_f CutX.none) _ (gx_h mO_o) rfl ⟨rfl, rfl⟩ ⟨Nat.le_of_ble_eq_true rfl, Nat.le_of_ble_eq_true rfl⟩ rfl ⟨Nat.zero_le _, Nat.zero_le _⟩ rfl (Nat.le_of_ble_eq_true rfl) dX8_op_64 (fun H locs hw => ?_)
      exact fin_i C hw (Option.some.inj hf) (fun o => o.1) (fun o => (mO G am as_ ar ac an ath ah o.2 ++ (sO G as_ s_as_ ++ []))) rfl rfl dX8_op_67
    replace hf := ifn hf h1_
    rcases Decidable.em (x2 = 2) with hc | h2_
    · replace hf := ifp hf hc
      refine lv_tableIn (tgt := 68) C.1 C.2.1 dX8_op_15 (by rw [hc]; decide) (by rw [hc]; decide) (by rw [hc]; rfl) (by decide) ?_
      refine r_aload0 C hl 0 rfl dX8_op_68 ?_
      refine r_aload0 C hl 0 rfl dX8_op_69 ?_
      refine r_get C hw _ (gx_h mO_o) 6 fl_X8_16 rfl dX8_op_70 ?_
      refine r_get C hw _ (gx_t (gx_h sO_o)) 8 fl_X8_321 rfl dX8_op_73 ?_
      refine r_iload0 C hl 1 rfl dX8_op_76 ?_
      obtain ⟨v3_, e3, hf⟩ := bx hf
      refine r_iald C hw _ (gx_t (gx_h sO_g8)) e3 dX8_op_77 ?_
      obtain ⟨u4, e4, hf⟩ := bx hf
      refine r_callVi (ws' := (mO G am as_ ar ac an ath ah u4.2 ++ (sO G as_ s_as_ ++ []))) (As := [.int v3_]) (rest := []) C hw hl.1 kX8_answer ml_X8_99 (c_X8_answer l G am as_ ar ac an ath ah _ m_am v3_ u4 e4) (CutX.take mO_f CutX.none) _ (gx_h mO_o) rfl ⟨rfl, rfl⟩ ⟨Nat.le_of_ble_eq_true rfl, Nat.le_of_ble_eq_true rfl⟩ rfl ⟨Nat.zero_le _, Nat.zero_le _⟩ rfl (Nat.le_of_ble_eq_true rfl) dX8_op_78 (fun H locs hw => ?_)
      exact fin_i C hw (Option.some.inj hf) (fun o => o.1) (fun o => (mO G am as_ ar ac an ath ah o.2 ++ (sO G as_ s_as_ ++ []))) rfl rfl dX8_op_81
    replace hf := ifn hf h2_
    refine lv_tableOut (tgt := 82) C.1 C.2.1 dX8_op_15 (sw_out3 h0_ h1_ h2_) (by decide) ?_
    refine r_aload0 C hl 0 rfl dX8_op_82 ?_
    refine lv_iconst (v := 1) C.1 C.2.1 dX8_op_83 (by decide) ?_
    obtain ⟨u2, e2, hf⟩ := bx hf
    refine r_callVi (ws' := (mO G am as_ ar ac an ath ah u2.2 ++ (sO G as_ s_as_ ++ []))) (As := [.int 1]) (rest := []) C hw hl.1 kX8_refuse ml_X8_63 (c_X8_refuse l G am as_ ar ac an ath ah _ m_am 1 u2 e2) (CutX.take mO_f CutX.none) _ (gx_h mO_o) rfl ⟨rfl, rfl⟩ ⟨Nat.le_of_ble_eq_true rfl, Nat.le_of_ble_eq_true rfl⟩ rfl ⟨Nat.zero_le _, Nat.zero_le _⟩ rfl (Nat.le_of_ble_eq_true rfl) dX8_op_84 (fun H locs hw => ?_)
    exact fin_i C hw (Option.some.inj hf) (fun o => o.1) (fun o => (mO G am as_ ar ac an ath ah o.2 ++ (sO G as_ s_as_ ++ []))) rfl rfl dX8_op_87
  · replace hf := ifn hf hc
    refine r_aload0 C hl 0 rfl dX8_op_8 ?_
    refine lv_iconst (v := 1) C.1 C.2.1 dX8_op_9 (by decide) ?_
    obtain ⟨u9, e9, hf⟩ := bx hf
    refine r_callVi (ws' := (mO G am as_ ar ac an ath ah u9.2 ++ (sO G as_ s_as_ ++ []))) (As := [.int 1]) (rest := []) C hw hl.1 kX8_refuse ml_X8_63 (c_X8_refuse l G am as_ ar ac an ath ah _ m_am 1 u9 e9) (CutX.take mO_f CutX.none) _ (gx_h mO_o) rfl ⟨rfl, rfl⟩ ⟨Nat.le_of_ble_eq_true rfl, Nat.le_of_ble_eq_true rfl⟩ rfl ⟨Nat.zero_le _, Nat.zero_le _⟩ rfl (Nat.le_of_ble_eq_true rfl) dX8_op_10 (fun H locs hw => ?_)
    exact fin_i C hw (Option.some.inj hf) (fun o => o.1) (fun o => (mO G am as_ ar ac an ath ah o.2 ++ (sO G as_ s_as_ ++ []))) rfl rfl dX8_op_13
set_option maxHeartbeats 4000000 in
set_option maxRecDepth 100000 in
theorem c_X8_foretell (l : Launch) (G : GG) (am : Nat → Nat) (as_ : Nat → Nat) (ar : Nat → Nat) (ac : Nat → Nat) (an : Nat → Nat) (ath : Nat → Nat) (ah : Nat → Nat) (sz : Nat) (m_am : Pic) (s_as_ : Pic) (t_an : Pic) (p_ath : Pic) (z_ath : Pic) (e_an : Pic) (x1 : Int32) (x2 : Int32) (out : Pic × Pic) (hf : f_X8_foretell m_am s_as_ t_an p_ath z_ath e_an x1 x2 = some out) : Met l yX8_foretell (.code yX8_foretell cX8_foretell 4 none :: BT) ({ frames := 6, cells := 0, slots := 0, locals := 141 }) (va_Pc [.ref (am 99), .int x1, .int x2] (PreW G sz (mO G am as_ ar ac an ath ah m_am ++ (sO G as_ s_as_ ++ (tO G an t_an ++ (pO G ath p_ath ++ (zO G ath z_ath ++ (eO G an e_an ++ [])))))))) (Don G (va_A (mO G am as_ ar ac an ath ah m_am ++ (sO G as_ s_as_ ++ (tO G an t_an ++ (pO G ath p_ath ++ (zO G ath z_ath ++ (eO G an e_an ++ [])))))) sz) (mO G am as_ ar ac an ath ah m_am ++ (sO G as_ s_as_ ++ (tO G an t_an ++ (pO G ath out.1 ++ (zO G ath out.2 ++ (eO G an e_an ++ []))))))) 0 0 (va_A (mO G am as_ ar ac an ath ah m_am ++ (sO G as_ s_as_ ++ (tO G an t_an ++ (pO G ath p_ath ++ (zO G ath z_ath ++ (eO G an e_an ++ [])))))) sz) := by
  refine Met.into (by decide) (Nat.le_of_ble_eq_true rfl) ?_
  intro p e s m below meth c C hsz ls hl hw
  have hl : lv_has ls 4 [(0, .ref (am 99)), (1, .int x1), (2, .int x2)] := hl
  clear hsz
  generalize va_A (mO G am as_ ar ac an ath ah m_am ++ (sO G as_ s_as_ ++ (tO G an t_an ++ (pO G ath p_ath ++ (zO G ath z_ath ++ (eO G an e_an ++ [])))))) sz = A at hw ⊢
  have hB_18 : ∀ (k18 : Pic → Pic → Int32 → Option (Pic × Pic)) (hk18 : ∀ (p_ath : Pic) (z_ath : Pic) (v3 : Int32), k18 p_ath z_ath v3 = some out → ∀ (H : Heap) (locs : List Loc), Wd G A s H locs (mO G am as_ ar ac an ath ah m_am ++ (sO G as_ s_as_ ++ (tO G an t_an ++ (pO G ath p_ath ++ (zO G ath z_ath ++ (eO G an e_an ++ [])))))) → ∀ ls : Array Slot, lv_has ls 4 [(0, .ref (am 99)), (3, .int v3)] → W p l e ({ frames := 6, cells := 0, slots := 0, locals := 141 }) s m [.ref (am 99), .int x1, .int x2].toArray below meth c H locs 0 0 (MQ below (Don G A (mO G am as_ ar ac an ath ah m_am ++ (sO G as_ s_as_ ++ (tO G an t_an ++ (pO G ath out.1 ++ (zO G ath out.2 ++ (eO G an e_an ++ []))))))) [.ref (am 99), .int x1, .int x2].toArray s 0 0 A) (F0 m 18 ls [])), ∀ (p_ath : Pic) (z_ath : Pic) (v3 : Int32), b_X8_foretell_18 m_am s_as_ t_an e_an x1 x2 k18 p_ath z_ath v3 = some out → ∀ (H : Heap) (locs : List Loc), Wd G A s H locs (mO G am as_ ar ac an ath ah m_am ++ (sO G as_ s_as_ ++ (tO G an t_an ++ (pO G ath p_ath ++ (zO G ath z_ath ++ (eO G an e_an ++ [])))))) → ∀ ls : Array Slot, lv_has ls 4 [(0, .ref (am 99)), (3, .int v3)] → W p l e ({ frames := 6, cells := 0, slots := 0, locals := 141 }) s m [.ref (am 99), .int x1, .int x2].toArray below meth c H locs 0 0 (MQ below (Don G A (mO G am as_ ar ac an ath ah m_am ++ (sO G as_ s_as_ ++ (tO G an t_an ++ (pO G ath out.1 ++ (zO G ath out.2 ++ (eO G an e_an ++ []))))))) [.ref (am 99), .int x1, .int x2].toArray s 0 0 A) (F0 m 18 ls []) := by
    intro k18 hk18 p_ath z_ath v3 hf H locs hw ls hl
    unfold b_X8_foretell_18 at hf
    refine r_iload0 C hl 1 rfl dX8_foretell_18 ?_
    refine r_aload0 C hl 0 rfl dX8_foretell_19 ?_
    refine r_get C hw _ (gx_h mO_o) 6 fl_X8_16 rfl dX8_foretell_20 ?_
    refine r_get C hw _ (gx_t (gx_h sO_o)) 4 fl_X8_117 rfl dX8_foretell_23 ?_
    refine lv_icmp_ge (tgt := 44) C.1 C.2.1 dX8_foretell_26 (by decide) (fun hc => ?_) (fun hc => ?_)
    · replace hf := ifp hf hc
      exact fin_v C hw (Option.some.inj hf) (fun o => (mO G am as_ ar ac an ath ah m_am ++ (sO G as_ s_as_ ++ (tO G an t_an ++ (pO G ath o.1 ++ (zO G ath o.2 ++ (eO G an e_an ++ []))))))) rfl dX8_foretell_44
    · replace hf := ifn hf hc
      refine r_aload0 C hl 0 rfl dX8_foretell_29 ?_
      refine r_aload0 C hl 0 rfl dX8_foretell_30 ?_
      refine r_get C hw _ (gx_h mO_o) 10 fl_X8_44 rfl dX8_foretell_31 ?_
      refine r_iload0 C hl 1 rfl dX8_foretell_34 ?_
      obtain ⟨u2, e2, hf⟩ := bx hf
      refine r_callVv (ws' := (mO G am as_ ar ac an ath ah m_am ++ (sO G as_ s_as_ ++ (tO G an t_an ++ (pO G ath u2.1 ++ (zO G ath u2.2 ++ (eO G an e_an ++ []))))))) (As := [.ref (ath 99), .int v3]) (rest := []) C hw hl.1 kX8_perform ml_X8_351 (c_X8_perform l G am as_ ar ac an ath ah ath _ m_am s_as_ t_an p_ath z_ath e_an v3 u2 e2) (CutX.take mO_f (CutX.take sO_f (CutX.take tO_f (CutX.take pO_f (CutX.take zO_f (CutX.take eO_f CutX.none)))))) _ (gx_h mO_o) rfl ⟨rfl, rfl⟩ ⟨Nat.le_of_ble_eq_true rfl, Nat.le_of_ble_eq_true rfl⟩ rfl ⟨Nat.zero_le _, Nat.zero_le _⟩ rfl (Nat.le_of_ble_eq_true rfl) dX8_foretell_35 (fun H locs hw => ?_)
      refine r_iinc C hl 1 (v3 + 1) [(3, .int (v3 + 1)), (0, .ref (am 99))] rfl (iinc_e (by decide)) (by decide) rfl dX8_foretell_38 (fun ls hl => ?_)
      refine lv_goto (tgt := 18) C.1 C.2.1 dX8_foretell_41 (by decide) ?_
      exact hk18 u2.1 u2.2 (v3 + 1) hf _ _ hw _ (lv_sub hl [1, 0] rfl)
  have hL_18 : ∀ n : Nat, ∀ (p_ath : Pic) (z_ath : Pic) (v3 : Int32), L_X8_foretell_18 m_am s_as_ t_an e_an x1 x2  n p_ath z_ath v3 = some out → ∀ (H : Heap) (locs : List Loc), Wd G A s H locs (mO G am as_ ar ac an ath ah m_am ++ (sO G as_ s_as_ ++ (tO G an t_an ++ (pO G ath p_ath ++ (zO G ath z_ath ++ (eO G an e_an ++ [])))))) → ∀ ls : Array Slot, lv_has ls 4 [(0, .ref (am 99)), (3, .int v3)] → W p l e ({ frames := 6, cells := 0, slots := 0, locals := 141 }) s m [.ref (am 99), .int x1, .int x2].toArray below meth c H locs 0 0 (MQ below (Don G A (mO G am as_ ar ac an ath ah m_am ++ (sO G as_ s_as_ ++ (tO G an t_an ++ (pO G ath out.1 ++ (zO G ath out.2 ++ (eO G an e_an ++ []))))))) [.ref (am 99), .int x1, .int x2].toArray s 0 0 A) (F0 m 18 ls []) := by
    intro  n
    induction n with
    | zero => intro p_ath z_ath v3 hf; cases hf
    | succ n ih => exact hB_18 _ ih
  unfold f_X8_foretell at hf
  refine r_aload0 C hl 0 rfl dX8_foretell_0 ?_
  refine r_get C hw _ (gx_h mO_o) 10 fl_X8_44 rfl dX8_foretell_1 ?_
  refine r_iload0 C hl 1 rfl dX8_foretell_4 ?_
  refine r_iload0 C hl 2 rfl dX8_foretell_5 ?_
  refine r_aload0 C hl 0 rfl dX8_foretell_6 ?_
  refine r_get C hw _ (gx_h mO_o) 6 fl_X8_16 rfl dX8_foretell_7 ?_
  refine r_get C hw _ (gx_t (gx_h sO_o)) 2 fl_X8_378 rfl dX8_foretell_10 ?_
  obtain ⟨u1, e1, hf⟩ := bx hf
  refine r_callVv (ws' := (mO G am as_ ar ac an ath ah m_am ++ (sO G as_ s_as_ ++ (tO G an t_an ++ (pO G ath u1.1 ++ (zO G ath u1.2 ++ (eO G an e_an ++ []))))))) (As := [.int x1, .int x2, .int (gS s_as_ 2)]) (rest := []) C hw hl.1 kX3_begin ml_X8_379 (c_X3_begin l G ath _ p_ath z_ath x1 x2 (gS s_as_ 2) u1 e1) (CutX.skip (CutX.skip (CutX.skip (CutX.take pO_f (CutX.take zO_f CutX.none))))) _ (gx_t (gx_t (gx_t (gx_h pO_o)))) rfl ⟨rfl, rfl⟩ ⟨Nat.le_of_ble_eq_true rfl, Nat.le_of_ble_eq_true rfl⟩ rfl ⟨Nat.zero_le _, Nat.zero_le _⟩ rfl (Nat.le_of_ble_eq_true rfl) dX8_foretell_13 (fun H locs hw => ?_)
  refine lv_iconst (v := 0) C.1 C.2.1 dX8_foretell_16 (by decide) ?_
  refine r_istore0 C hl [(3, .int 0), (0, .ref (am 99)), (1, .int x1), (2, .int x2)] (by decide) rfl dX8_foretell_17 (fun ls hl => ?_)
  exact hL_18  FU u1.1 u1.2 0 hf _ _ hw _ (lv_sub hl [1, 0] rfl)
set_option maxHeartbeats 4000000 in
set_option maxRecDepth 100000 in
theorem c_X8_foretold (l : Launch) (G : GG) (am : Nat → Nat) (as_ : Nat → Nat) (ar : Nat → Nat) (ac : Nat → Nat) (an : Nat → Nat) (ath : Nat → Nat) (ah : Nat → Nat) (sz : Nat) (m_am : Pic) (s_as_ : Pic) (t_an : Pic) (p_ath : Pic) (z_ath : Pic) (e_an : Pic) (x1 : Int32) (x2 : Int32) (x3 : Int32) (out : Int32 × Pic × Pic × Pic) (hf : f_X8_foretold m_am s_as_ t_an p_ath z_ath e_an x1 x2 x3 = some out) : Met l yX8_foretold (.code yX8_foretold cX8_foretold 4 (some .int) :: BT) ({ frames := 7, cells := 0, slots := 0, locals := 164 }) (va_Pc [.ref (am 99), .int x1, .int x2, .int x3] (PreW G sz (mO G am as_ ar ac an ath ah m_am ++ (sO G as_ s_as_ ++ (tO G an t_an ++ (pO G ath p_ath ++ (zO G ath z_ath ++ (eO G an e_an ++ [])))))))) (Ans G out.1 (va_A (mO G am as_ ar ac an ath ah m_am ++ (sO G as_ s_as_ ++ (tO G an t_an ++ (pO G ath p_ath ++ (zO G ath z_ath ++ (eO G an e_an ++ [])))))) sz) (mO G am as_ ar ac an ath ah out.2.1 ++ (sO G as_ s_as_ ++ (tO G an t_an ++ (pO G ath out.2.2.1 ++ (zO G ath out.2.2.2 ++ (eO G an e_an ++ []))))))) 0 0 (va_A (mO G am as_ ar ac an ath ah m_am ++ (sO G as_ s_as_ ++ (tO G an t_an ++ (pO G ath p_ath ++ (zO G ath z_ath ++ (eO G an e_an ++ [])))))) sz) := by
  refine Met.into (by decide) (Nat.le_of_ble_eq_true rfl) ?_
  intro p e s m below meth c C hsz ls hl hw
  have hl : lv_has ls 4 [(0, .ref (am 99)), (1, .int x1), (2, .int x2), (3, .int x3)] := hl
  clear hsz
  generalize va_A (mO G am as_ ar ac an ath ah m_am ++ (sO G as_ s_as_ ++ (tO G an t_an ++ (pO G ath p_ath ++ (zO G ath z_ath ++ (eO G an e_an ++ [])))))) sz = A at hw ⊢
  have hB_16 : ∀ (m_am : Pic) (p_ath : Pic) (z_ath : Pic), b_X8_foretold_16 s_as_ t_an e_an x1 x2 x3  m_am p_ath z_ath = some out → ∀ (H : Heap) (locs : List Loc), Wd G A s H locs (mO G am as_ ar ac an ath ah m_am ++ (sO G as_ s_as_ ++ (tO G an t_an ++ (pO G ath p_ath ++ (zO G ath z_ath ++ (eO G an e_an ++ [])))))) → ∀ ls : Array Slot, lv_has ls 4 [(0, .ref (am 99))] → W p l e ({ frames := 7, cells := 0, slots := 0, locals := 164 }) s m [.ref (am 99), .int x1, .int x2, .int x3].toArray below meth c H locs 0 0 (MQ below (Ans G out.1 A (mO G am as_ ar ac an ath ah out.2.1 ++ (sO G as_ s_as_ ++ (tO G an t_an ++ (pO G ath out.2.2.1 ++ (zO G ath out.2.2.2 ++ (eO G an e_an ++ []))))))) [.ref (am 99), .int x1, .int x2, .int x3].toArray s 0 0 A) (F0 m 16 ls []) := by
    intro m_am p_ath z_ath hf H locs hw ls hl
    unfold b_X8_foretold_16 at hf
    refine r_aload0 C hl 0 rfl dX8_foretold_16 ?_
    refine lv_iconst (v := 1) C.1 C.2.1 dX8_foretold_17 (by decide) ?_
    obtain ⟨u1, e1, hf⟩ := bx hf
    refine r_callVi (ws' := (mO G am as_ ar ac an ath ah u1.2 ++ (sO G as_ s_as_ ++ (tO G an t_an ++ (pO G ath p_ath ++ (zO G ath z_ath ++ (eO G an e_an ++ []))))))) (As := [.int 1]) (rest := []) C hw hl.1 kX8_refuse ml_X8_63 (c_X8_refuse l G am as_ ar ac an ath ah _ m_am 1 u1 e1) (CutX.take mO_f CutX.none) _ (gx_h mO_o) rfl ⟨rfl, rfl⟩ ⟨Nat.le_of_ble_eq_true rfl, Nat.le_of_ble_eq_true rfl⟩ rfl ⟨Nat.zero_le _, Nat.zero_le _⟩ rfl (Nat.le_of_ble_eq_true rfl) dX8_foretold_18 (fun H locs hw => ?_)
    exact fin_i C hw (Option.some.inj hf) (fun o => o.1) (fun o => (mO G am as_ ar ac an ath ah o.2.1 ++ (sO G as_ s_as_ ++ (tO G an t_an ++ (pO G ath o.2.2.1 ++ (zO G ath o.2.2.2 ++ (eO G an e_an ++ []))))))) rfl rfl dX8_foretold_21
  have hB_39 : ∀ (m_am : Pic) (p_ath : Pic) (z_ath : Pic), b_X8_foretold_39 s_as_ t_an e_an x1 x2 x3  m_am p_ath z_ath = some out → ∀ (H : Heap) (locs : List Loc), Wd G A s H locs (mO G am as_ ar ac an ath ah m_am ++ (sO G as_ s_as_ ++ (tO G an t_an ++ (pO G ath p_ath ++ (zO G ath z_ath ++ (eO G an e_an ++ [])))))) → ∀ ls : Array Slot, lv_has ls 4 [(0, .ref (am 99))] → W p l e ({ frames := 7, cells := 0, slots := 0, locals := 164 }) s m [.ref (am 99), .int x1, .int x2, .int x3].toArray below meth c H locs 0 0 (MQ below (Ans G out.1 A (mO G am as_ ar ac an ath ah out.2.1 ++ (sO G as_ s_as_ ++ (tO G an t_an ++ (pO G ath out.2.2.1 ++ (zO G ath out.2.2.2 ++ (eO G an e_an ++ []))))))) [.ref (am 99), .int x1, .int x2, .int x3].toArray s 0 0 A) (F0 m 39 ls []) := by
    intro m_am p_ath z_ath hf H locs hw ls hl
    unfold b_X8_foretold_39 at hf
    refine r_aload0 C hl 0 rfl dX8_foretold_39 ?_
    refine lv_iconst (v := 2) C.1 C.2.1 dX8_foretold_40 (by decide) ?_
    obtain ⟨u3, e3, hf⟩ := bx hf
    refine r_callVi (ws' := (mO G am as_ ar ac an ath ah u3.2 ++ (sO G as_ s_as_ ++ (tO G an t_an ++ (pO G ath p_ath ++ (zO G ath z_ath ++ (eO G an e_an ++ []))))))) (As := [.int 2]) (rest := []) C hw hl.1 kX8_refuse ml_X8_63 (c_X8_refuse l G am as_ ar ac an ath ah _ m_am 2 u3 e3) (CutX.take mO_f CutX.none) _ (gx_h mO_o) rfl ⟨rfl, rfl⟩ ⟨Nat.le_of_ble_eq_true rfl, Nat.le_of_ble_eq_true rfl⟩ rfl ⟨Nat.zero_le _, Nat.zero_le _⟩ rfl (Nat.le_of_ble_eq_true rfl) dX8_foretold_41 (fun H locs hw => ?_)
    exact fin_i C hw (Option.some.inj hf) (fun o => o.1) (fun o => (mO G am as_ ar ac an ath ah o.2.1 ++ (sO G as_ s_as_ ++ (tO G an t_an ++ (pO G ath o.2.2.1 ++ (zO G ath o.2.2.2 ++ (eO G an e_an ++ []))))))) rfl rfl dX8_foretold_44
  unfold f_X8_foretold at hf
  refine r_aload0 C hl 0 rfl dX8_foretold_0 ?_
  refine r_get C hw _ (gx_h mO_o) 2 fl_X8_85 rfl dX8_foretold_1 ?_
  refine lv_if_eq (tgt := 16) C.1 C.2.1 dX8_foretold_4 (by decide) (fun hc => ?_) (fun hc => ?_)
  · replace hf := ifp hf hc
    exact hB_16  m_am p_ath z_ath hf _ _ hw _ (lv_sub hl [0] rfl)
  · replace hf := ifn hf hc
    refine r_iload0 C hl 3 rfl dX8_foretold_7 ?_
    refine lv_if_lt (tgt := 16) C.1 C.2.1 dX8_foretold_8 (by decide) (fun hc => ?_) (fun hc => ?_)
    · replace hf := ifp hf hc
      exact hB_16  m_am p_ath z_ath hf _ _ hw _ (lv_sub hl [0] rfl)
    · replace hf := ifn hf hc
      refine r_iload0 C hl 3 rfl dX8_foretold_11 ?_
      refine lv_iconst (v := 2) C.1 C.2.1 dX8_foretold_12 (by decide) ?_
      refine lv_icmp_le (tgt := 22) C.1 C.2.1 dX8_foretold_13 (by decide) (fun hc => ?_) (fun hc => ?_)
      · replace hf := ifp hf hc
        refine r_iload0 C hl 1 rfl dX8_foretold_22 ?_
        obtain ⟨u2, e2, hf⟩ := bx hf
        refine r_callSi (ws' := (mO G am as_ ar ac an ath ah m_am ++ (sO G as_ s_as_ ++ (tO G an t_an ++ (pO G ath p_ath ++ (zO G ath z_ath ++ (eO G an e_an ++ []))))))) (As := [.int x1]) (rest := []) C hw hl.1 kX8_noLimit ml_X8_277 (c_X8_noLimit l G _ x1 u2 e2) CutX.none ⟨rfl, rfl⟩ ⟨Nat.le_of_ble_eq_true rfl, Nat.le_of_ble_eq_true rfl⟩ rfl ⟨Nat.zero_le _, Nat.zero_le _⟩ rfl (Nat.le_of_ble_eq_true rfl) dX8_foretold_23 (fun H locs hw => ?_)
        refine lv_if_ne (tgt := 39) C.1 C.2.1 dX8_foretold_26 (by decide) (fun hc => ?_) (fun hc => ?_)
        · replace hf := ifn hf hc
          exact hB_39  m_am p_ath z_ath hf _ _ hw _ (lv_sub hl [0] rfl)
        · replace hf := ifp hf hc
          refine r_iload0 C hl 2 rfl dX8_foretold_29 ?_
          refine lv_iconst (v := 1) C.1 C.2.1 dX8_foretold_30 (by decide) ?_
          refine lv_icmp_lt (tgt := 39) C.1 C.2.1 dX8_foretold_31 (by decide) (fun hc => ?_) (fun hc => ?_)
          · replace hf := ifp hf hc
            exact hB_39  m_am p_ath z_ath hf _ _ hw _ (lv_sub hl [0] rfl)
          · replace hf := ifn hf hc
            refine r_iload0 C hl 2 rfl dX8_foretold_34 ?_
            refine lv_iconst (v := 4) C.1 C.2.1 dX8_foretold_35 (by decide) ?_
            refine lv_icmp_le (tgt := 45) C.1 C.2.1 dX8_foretold_36 (by decide) (fun hc => ?_) (fun hc => ?_)
            · replace hf := ifp hf hc
              refine r_aload0 C hl 0 rfl dX8_foretold_45 ?_
              refine r_iload0 C hl 1 rfl dX8_foretold_46 ?_
              refine r_iload0 C hl 2 rfl dX8_foretold_47 ?_
              obtain ⟨u4, e4, hf⟩ := bx hf
              refine r_callVv (ws' := (mO G am as_ ar ac an ath ah m_am ++ (sO G as_ s_as_ ++ (tO G an t_an ++ (pO G ath u4.1 ++ (zO G ath u4.2 ++ (eO G an e_an ++ []))))))) (As := [.int x1, .int x2]) (rest := []) C hw hl.1 kX8_foretell ml_X8_308 (c_X8_foretell l G am as_ ar ac an ath ah _ m_am s_as_ t_an p_ath z_ath e_an x1 x2 u4 e4) (CutX.take mO_f (CutX.take sO_f (CutX.take tO_f (CutX.take pO_f (CutX.take zO_f (CutX.take eO_f CutX.none)))))) _ (gx_h mO_o) rfl ⟨rfl, rfl⟩ ⟨Nat.le_of_ble_eq_true rfl, Nat.le_of_ble_eq_true rfl⟩ rfl ⟨Nat.zero_le _, Nat.zero_le _⟩ rfl (Nat.le_of_ble_eq_true rfl) dX8_foretold_48 (fun H locs hw => ?_)
              refine r_aload0 C hl 0 rfl dX8_foretold_51 ?_
              refine r_aload0 C hl 0 rfl dX8_foretold_52 ?_
              refine r_get C hw _ (gx_h mO_o) 10 fl_X8_44 rfl dX8_foretold_53 ?_
              refine r_get C hw _ (gx_t (gx_t (gx_t (gx_h pO_o)))) 12 fl_X8_270 rfl dX8_foretold_56 ?_
              refine r_iload0 C hl 3 rfl dX8_foretold_59 ?_
              obtain ⟨v5_, e5, hf⟩ := bx hf
              refine r_iald C hw _ (gx_t (gx_t (gx_t (gx_h pO_g12)))) e5 dX8_foretold_60 ?_
              obtain ⟨u6, e6, hf⟩ := bx hf
              refine r_callVi (ws' := (mO G am as_ ar ac an ath ah u6.2 ++ (sO G as_ s_as_ ++ (tO G an t_an ++ (pO G ath u4.1 ++ (zO G ath u4.2 ++ (eO G an e_an ++ []))))))) (As := [.int v5_]) (rest := []) C hw hl.1 kX8_answer ml_X8_99 (c_X8_answer l G am as_ ar ac an ath ah _ m_am v5_ u6 e6) (CutX.take mO_f CutX.none) _ (gx_h mO_o) rfl ⟨rfl, rfl⟩ ⟨Nat.le_of_ble_eq_true rfl, Nat.le_of_ble_eq_true rfl⟩ rfl ⟨Nat.zero_le _, Nat.zero_le _⟩ rfl (Nat.le_of_ble_eq_true rfl) dX8_foretold_61 (fun H locs hw => ?_)
              exact fin_i C hw (Option.some.inj hf) (fun o => o.1) (fun o => (mO G am as_ ar ac an ath ah o.2.1 ++ (sO G as_ s_as_ ++ (tO G an t_an ++ (pO G ath o.2.2.1 ++ (zO G ath o.2.2.2 ++ (eO G an e_an ++ []))))))) rfl rfl dX8_foretold_64
            · replace hf := ifn hf hc
              exact hB_39  m_am p_ath z_ath hf _ _ hw _ (lv_sub hl [0] rfl)
      · replace hf := ifn hf hc
        exact hB_16  m_am p_ath z_ath hf _ _ hw _ (lv_sub hl [0] rfl)
set_option maxHeartbeats 4000000 in
set_option maxRecDepth 100000 in
theorem c_X8_enough (l : Launch) (G : GG) (am : Nat → Nat) (as_ : Nat → Nat) (ar : Nat → Nat) (ac : Nat → Nat) (an : Nat → Nat) (ath : Nat → Nat) (ah : Nat → Nat) (sz : Nat) (m_am : Pic) (s_as_ : Pic) (t_an : Pic) (p_ath : Pic) (z_ath : Pic) (e_an : Pic)  (out : Int32 × Pic × Pic × Pic) (hf : f_X8_enough m_am s_as_ t_an p_ath z_ath e_an = some out) : Met l yX8_enough (.code yX8_enough cX8_enough 2 (some .int) :: BT) ({ frames := 7, cells := 0, slots := 0, locals := 164 }) (va_Pc [.ref (am 99)] (PreW G sz (mO G am as_ ar ac an ath ah m_am ++ (sO G as_ s_as_ ++ (tO G an t_an ++ (pO G ath p_ath ++ (zO G ath z_ath ++ (eO G an e_an ++ [])))))))) (Ans G out.1 (va_A (mO G am as_ ar ac an ath ah m_am ++ (sO G as_ s_as_ ++ (tO G an t_an ++ (pO G ath p_ath ++ (zO G ath z_ath ++ (eO G an e_an ++ [])))))) sz) (mO G am as_ ar ac an ath ah out.2.1 ++ (sO G as_ s_as_ ++ (tO G an t_an ++ (pO G ath out.2.2.1 ++ (zO G ath out.2.2.2 ++ (eO G an e_an ++ []))))))) 0 0 (va_A (mO G am as_ ar ac an ath ah m_am ++ (sO G as_ s_as_ ++ (tO G an t_an ++ (pO G ath p_ath ++ (zO G ath z_ath ++ (eO G an e_an ++ [])))))) sz) := by
  refine Met.into (by decide) (Nat.le_of_ble_eq_true rfl) ?_
  intro p e s m below meth c C hsz ls hl hw
  have hl : lv_has ls 2 [(0, .ref (am 99))] := hl
  clear hsz
  generalize va_A (mO G am as_ ar ac an ath ah m_am ++ (sO G as_ s_as_ ++ (tO G an t_an ++ (pO G ath p_ath ++ (zO G ath z_ath ++ (eO G an e_an ++ [])))))) sz = A at hw ⊢
  have hB_15 : ∀ (k15 : Pic → Pic → Pic → Int32 → Option (Int32 × Pic × Pic × Pic)) (hk15 : ∀ (m_am : Pic) (p_ath : Pic) (z_ath : Pic) (v1 : Int32), k15 m_am p_ath z_ath v1 = some out → ∀ (H : Heap) (locs : List Loc), Wd G A s H locs (mO G am as_ ar ac an ath ah m_am ++ (sO G as_ s_as_ ++ (tO G an t_an ++ (pO G ath p_ath ++ (zO G ath z_ath ++ (eO G an e_an ++ [])))))) → ∀ ls : Array Slot, lv_has ls 2 [(0, .ref (am 99)), (1, .int v1)] → W p l e ({ frames := 7, cells := 0, slots := 0, locals := 164 }) s m [.ref (am 99)].toArray below meth c H locs 0 0 (MQ below (Ans G out.1 A (mO G am as_ ar ac an ath ah out.2.1 ++ (sO G as_ s_as_ ++ (tO G an t_an ++ (pO G ath out.2.2.1 ++ (zO G ath out.2.2.2 ++ (eO G an e_an ++ []))))))) [.ref (am 99)].toArray s 0 0 A) (F0 m 15 ls [])), ∀ (m_am : Pic) (p_ath : Pic) (z_ath : Pic) (v1 : Int32), b_X8_enough_15 s_as_ t_an e_an k15 m_am p_ath z_ath v1 = some out → ∀ (H : Heap) (locs : List Loc), Wd G A s H locs (mO G am as_ ar ac an ath ah m_am ++ (sO G as_ s_as_ ++ (tO G an t_an ++ (pO G ath p_ath ++ (zO G ath z_ath ++ (eO G an e_an ++ [])))))) → ∀ ls : Array Slot, lv_has ls 2 [(0, .ref (am 99)), (1, .int v1)] → W p l e ({ frames := 7, cells := 0, slots := 0, locals := 164 }) s m [.ref (am 99)].toArray below meth c H locs 0 0 (MQ below (Ans G out.1 A (mO G am as_ ar ac an ath ah out.2.1 ++ (sO G as_ s_as_ ++ (tO G an t_an ++ (pO G ath out.2.2.1 ++ (zO G ath out.2.2.2 ++ (eO G an e_an ++ []))))))) [.ref (am 99)].toArray s 0 0 A) (F0 m 15 ls []) := by
    intro k15 hk15 m_am p_ath z_ath v1 hf H locs hw ls hl
    unfold b_X8_enough_15 at hf
    refine r_iload0 C hl 1 rfl dX8_enough_15 ?_
    refine lv_bipush (v := 24) C.1 C.2.1 dX8_enough_16 (by decide) ?_
    refine lv_icmp_gt (tgt := 57) C.1 C.2.1 dX8_enough_18 (by decide) (fun hc => ?_) (fun hc => ?_)
    · replace hf := ifp hf hc
      refine r_aload0 C hl 0 rfl dX8_enough_57 ?_
      refine lv_bipush (v := (-2)) C.1 C.2.1 dX8_enough_58 (by decide) ?_
      obtain ⟨u1, e1, hf⟩ := bx hf
      refine r_callVi (ws' := (mO G am as_ ar ac an ath ah u1.2 ++ (sO G as_ s_as_ ++ (tO G an t_an ++ (pO G ath p_ath ++ (zO G ath z_ath ++ (eO G an e_an ++ []))))))) (As := [.int (-2)]) (rest := []) C hw hl.1 kX8_answer ml_X8_99 (c_X8_answer l G am as_ ar ac an ath ah _ m_am (-2) u1 e1) (CutX.take mO_f CutX.none) _ (gx_h mO_o) rfl ⟨rfl, rfl⟩ ⟨Nat.le_of_ble_eq_true rfl, Nat.le_of_ble_eq_true rfl⟩ rfl ⟨Nat.zero_le _, Nat.zero_le _⟩ rfl (Nat.le_of_ble_eq_true rfl) dX8_enough_60 (fun H locs hw => ?_)
      exact fin_i C hw (Option.some.inj hf) (fun o => o.1) (fun o => (mO G am as_ ar ac an ath ah o.2.1 ++ (sO G as_ s_as_ ++ (tO G an t_an ++ (pO G ath o.2.2.1 ++ (zO G ath o.2.2.2 ++ (eO G an e_an ++ []))))))) rfl rfl dX8_enough_63
    · replace hf := ifn hf hc
      refine r_aload0 C hl 0 rfl dX8_enough_21 ?_
      refine r_iload0 C hl 1 rfl dX8_enough_22 ?_
      refine r_aload0 C hl 0 rfl dX8_enough_23 ?_
      refine r_get C hw _ (gx_h mO_o) 6 fl_X8_16 rfl dX8_enough_24 ?_
      refine r_get C hw _ (gx_t (gx_h sO_o)) 1 fl_X8_311 rfl dX8_enough_27 ?_
      obtain ⟨u2, e2, hf⟩ := bx hf
      refine r_callVv (ws' := (mO G am as_ ar ac an ath ah m_am ++ (sO G as_ s_as_ ++ (tO G an t_an ++ (pO G ath u2.1 ++ (zO G ath u2.2 ++ (eO G an e_an ++ []))))))) (As := [.int v1, .int (gS s_as_ 1)]) (rest := []) C hw hl.1 kX8_foretell ml_X8_308 (c_X8_foretell l G am as_ ar ac an ath ah _ m_am s_as_ t_an p_ath z_ath e_an v1 (gS s_as_ 1) u2 e2) (CutX.take mO_f (CutX.take sO_f (CutX.take tO_f (CutX.take pO_f (CutX.take zO_f (CutX.take eO_f CutX.none)))))) _ (gx_h mO_o) rfl ⟨rfl, rfl⟩ ⟨Nat.le_of_ble_eq_true rfl, Nat.le_of_ble_eq_true rfl⟩ rfl ⟨Nat.zero_le _, Nat.zero_le _⟩ rfl (Nat.le_of_ble_eq_true rfl) dX8_enough_30 (fun H locs hw => ?_)
      refine r_aload0 C hl 0 rfl dX8_enough_33 ?_
      refine r_get C hw _ (gx_h mO_o) 10 fl_X8_44 rfl dX8_enough_34 ?_
      refine r_get C hw _ (gx_t (gx_t (gx_t (gx_h pO_o)))) 12 fl_X8_270 rfl dX8_enough_37 ?_
      refine lv_iconst (v := 1) C.1 C.2.1 dX8_enough_40 (by decide) ?_
      obtain ⟨v3_, e3, hf⟩ := bx hf
      refine r_iald C hw _ (gx_t (gx_t (gx_t (gx_h pO_g12)))) e3 dX8_enough_41 ?_
      refine lv_if_ne (tgt := 51) C.1 C.2.1 dX8_enough_42 (by decide) (fun hc => ?_) (fun hc => ?_)
      · replace hf := ifn hf hc
        refine r_iinc C hl 1 (v1 + 1) [(1, .int (v1 + 1)), (0, .ref (am 99))] rfl (iinc_e (by decide)) (by decide) rfl dX8_enough_51 (fun ls hl => ?_)
        refine lv_goto (tgt := 15) C.1 C.2.1 dX8_enough_54 (by decide) ?_
        exact hk15 m_am u2.1 u2.2 (v1 + 1) hf _ _ hw _ (lv_sub hl [1, 0] rfl)
      · replace hf := ifp hf hc
        refine r_aload0 C hl 0 rfl dX8_enough_45 ?_
        refine r_iload0 C hl 1 rfl dX8_enough_46 ?_
        obtain ⟨u4, e4, hf⟩ := bx hf
        refine r_callVi (ws' := (mO G am as_ ar ac an ath ah u4.2 ++ (sO G as_ s_as_ ++ (tO G an t_an ++ (pO G ath u2.1 ++ (zO G ath u2.2 ++ (eO G an e_an ++ []))))))) (As := [.int v1]) (rest := []) C hw hl.1 kX8_answer ml_X8_99 (c_X8_answer l G am as_ ar ac an ath ah _ m_am v1 u4 e4) (CutX.take mO_f CutX.none) _ (gx_h mO_o) rfl ⟨rfl, rfl⟩ ⟨Nat.le_of_ble_eq_true rfl, Nat.le_of_ble_eq_true rfl⟩ rfl ⟨Nat.zero_le _, Nat.zero_le _⟩ rfl (Nat.le_of_ble_eq_true rfl) dX8_enough_47 (fun H locs hw => ?_)
        exact fin_i C hw (Option.some.inj hf) (fun o => o.1) (fun o => (mO G am as_ ar ac an ath ah o.2.1 ++ (sO G as_ s_as_ ++ (tO G an t_an ++ (pO G ath o.2.2.1 ++ (zO G ath o.2.2.2 ++ (eO G an e_an ++ []))))))) rfl rfl dX8_enough_50
  have hL_15 : ∀ n : Nat, ∀ (m_am : Pic) (p_ath : Pic) (z_ath : Pic) (v1 : Int32), L_X8_enough_15 s_as_ t_an e_an  n m_am p_ath z_ath v1 = some out → ∀ (H : Heap) (locs : List Loc), Wd G A s H locs (mO G am as_ ar ac an ath ah m_am ++ (sO G as_ s_as_ ++ (tO G an t_an ++ (pO G ath p_ath ++ (zO G ath z_ath ++ (eO G an e_an ++ [])))))) → ∀ ls : Array Slot, lv_has ls 2 [(0, .ref (am 99)), (1, .int v1)] → W p l e ({ frames := 7, cells := 0, slots := 0, locals := 164 }) s m [.ref (am 99)].toArray below meth c H locs 0 0 (MQ below (Ans G out.1 A (mO G am as_ ar ac an ath ah out.2.1 ++ (sO G as_ s_as_ ++ (tO G an t_an ++ (pO G ath out.2.2.1 ++ (zO G ath out.2.2.2 ++ (eO G an e_an ++ []))))))) [.ref (am 99)].toArray s 0 0 A) (F0 m 15 ls []) := by
    intro  n
    induction n with
    | zero => intro m_am p_ath z_ath v1 hf; cases hf
    | succ n ih => exact hB_15 _ ih
  unfold f_X8_enough at hf
  refine r_aload0 C hl 0 rfl dX8_enough_0 ?_
  refine r_get C hw _ (gx_h mO_o) 2 fl_X8_85 rfl dX8_enough_1 ?_
  refine lv_if_ne (tgt := 13) C.1 C.2.1 dX8_enough_4 (by decide) (fun hc => ?_) (fun hc => ?_)
  · replace hf := ifn hf hc
    refine lv_iconst (v := 1) C.1 C.2.1 dX8_enough_13 (by decide) ?_
    refine r_istore0 C hl [(1, .int 1), (0, .ref (am 99))] (by decide) rfl dX8_enough_14 (fun ls hl => ?_)
    exact hL_15  FU m_am p_ath z_ath 1 hf _ _ hw _ (lv_sub hl [1, 0] rfl)
  · replace hf := ifp hf hc
    refine r_aload0 C hl 0 rfl dX8_enough_7 ?_
    refine lv_iconst (v := 1) C.1 C.2.1 dX8_enough_8 (by decide) ?_
    obtain ⟨u5, e5, hf⟩ := bx hf
    refine r_callVi (ws' := (mO G am as_ ar ac an ath ah u5.2 ++ (sO G as_ s_as_ ++ (tO G an t_an ++ (pO G ath p_ath ++ (zO G ath z_ath ++ (eO G an e_an ++ []))))))) (As := [.int 1]) (rest := []) C hw hl.1 kX8_refuse ml_X8_63 (c_X8_refuse l G am as_ ar ac an ath ah _ m_am 1 u5 e5) (CutX.take mO_f CutX.none) _ (gx_h mO_o) rfl ⟨rfl, rfl⟩ ⟨Nat.le_of_ble_eq_true rfl, Nat.le_of_ble_eq_true rfl⟩ rfl ⟨Nat.zero_le _, Nat.zero_le _⟩ rfl (Nat.le_of_ble_eq_true rfl) dX8_enough_9 (fun H locs hw => ?_)
    exact fin_i C hw (Option.some.inj hf) (fun o => o.1) (fun o => (mO G am as_ ar ac an ath ah o.2.1 ++ (sO G as_ s_as_ ++ (tO G an t_an ++ (pO G ath o.2.2.1 ++ (zO G ath o.2.2.2 ++ (eO G an e_an ++ []))))))) rfl rfl dX8_enough_12
