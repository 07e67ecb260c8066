set_option maxHeartbeats 4000000 in
set_option maxRecDepth 100000 in
theorem c_X8_freeing (l : Launch) (G : GG) (am : Nat → Nat) (as_ : Nat → Nat) (ar : Nat → Nat) (ac : Nat → Nat) (an : Nat → Nat) (ath : Nat → Nat) (ah : Nat → Nat) (sz : Nat) (m_am : Pic) (t_an : Pic) (p_an : Pic) (p_ath : Pic) (z_an : Pic) (z_ath : Pic)  (out : Int32 × Pic × Pic × Pic) (hf : f_X8_freeing m_am t_an p_an p_ath z_an z_ath = some out) : Met l yX8_freeing (.code yX8_freeing cX8_freeing 2 (some .int) :: BT) ({ frames := 4, cells := 0, slots := 0, locals := 88 }) (va_Pc [.ref (am 99)] (PreW G sz (mO G am as_ ar ac an ath ah m_am ++ (tO G an t_an ++ (pO G an p_an ++ (pO G ath p_ath ++ (zO G an z_an ++ (zO G ath z_ath ++ [])))))))) (Ans G out.1 (va_A (mO G am as_ ar ac an ath ah m_am ++ (tO G an t_an ++ (pO G an p_an ++ (pO G ath p_ath ++ (zO G an z_an ++ (zO G ath z_ath ++ [])))))) sz) (mO G am as_ ar ac an ath ah out.2.1 ++ (tO G an t_an ++ (pO G an p_an ++ (pO G ath out.2.2.1 ++ (zO G an z_an ++ (zO G ath out.2.2.2 ++ []))))))) 0 0 (va_A (mO G am as_ ar ac an ath ah m_am ++ (tO G an t_an ++ (pO G an p_an ++ (pO G ath p_ath ++ (zO G an z_an ++ (zO G ath z_ath ++ [])))))) sz) := by
  refine Met.into (by decide) (Nat.le_of_ble_eq_true rfl) ?_
  intro p e s m below meth c C hsz ls hl hw
  have hl : lv_has ls 2 [(0, .ref (am 99))] := hl
  clear hsz
  generalize va_A (mO G am as_ ar ac an ath ah m_am ++ (tO G an t_an ++ (pO G an p_an ++ (pO G ath p_ath ++ (zO G an z_an ++ (zO G ath z_ath ++ [])))))) sz = A at hw ⊢
  have hB_29 : ∀ (k29 : Pic → Pic → Pic → Int32 → Option (Int32 × Pic × Pic × Pic)) (hk29 : ∀ (m_am : Pic) (p_ath : Pic) (z_ath : Pic) (v1 : Int32), k29 m_am p_ath z_ath v1 = some out → ∀ (H : Heap) (locs : List Loc), Wd G A s H locs (mO G am as_ ar ac an ath ah m_am ++ (tO G an t_an ++ (pO G an p_an ++ (pO G ath p_ath ++ (zO G an z_an ++ (zO G ath z_ath ++ [])))))) → ∀ ls : Array Slot, lv_has ls 2 [(0, .ref (am 99)), (1, .int v1)] → W p l e ({ frames := 4, cells := 0, slots := 0, locals := 88 }) s m [.ref (am 99)].toArray below meth c H locs 0 0 (MQ below (Ans G out.1 A (mO G am as_ ar ac an ath ah out.2.1 ++ (tO G an t_an ++ (pO G an p_an ++ (pO G ath out.2.2.1 ++ (zO G an z_an ++ (zO G ath out.2.2.2 ++ []))))))) [.ref (am 99)].toArray s 0 0 A) (F0 m 29 ls [])), ∀ (m_am : Pic) (p_ath : Pic) (z_ath : Pic) (v1 : Int32), b_X8_freeing_29 t_an p_an z_an k29 m_am p_ath z_ath v1 = some out → ∀ (H : Heap) (locs : List Loc), Wd G A s H locs (mO G am as_ ar ac an ath ah m_am ++ (tO G an t_an ++ (pO G an p_an ++ (pO G ath p_ath ++ (zO G an z_an ++ (zO G ath z_ath ++ [])))))) → ∀ ls : Array Slot, lv_has ls 2 [(0, .ref (am 99)), (1, .int v1)] → W p l e ({ frames := 4, cells := 0, slots := 0, locals := 88 }) s m [.ref (am 99)].toArray below meth c H locs 0 0 (MQ below (Ans G out.1 A (mO G am as_ ar ac an ath ah out.2.1 ++ (tO G an t_an ++ (pO G an p_an ++ (pO G ath out.2.2.1 ++ (zO G an z_an ++ (zO G ath out.2.2.2 ++ []))))))) [.ref (am 99)].toArray s 0 0 A) (F0 m 29 ls []) := by
    intro k29 hk29 m_am p_ath z_ath v1 hf H locs hw ls hl
    unfold b_X8_freeing_29 at hf
    refine r_iload0 C hl 1 rfl dX8_freeing_29 ?_
    refine lv_bipush (v := 30) C.1 C.2.1 dX8_freeing_30 (by decide) ?_
    refine lv_icmp_gt (tgt := 91) C.1 C.2.1 dX8_freeing_32 (by decide) (fun hc => ?_) (fun hc => ?_)
    · replace hf := ifp hf hc
      refine r_aload0 C hl 0 rfl dX8_freeing_91 ?_
      refine lv_bipush (v := (-2)) C.1 C.2.1 dX8_freeing_92 (by decide) ?_
      obtain ⟨u2, e2, hf⟩ := bx hf
      refine r_callVi (ws' := (mO G am as_ ar ac an ath ah u2.2 ++ (tO G an t_an ++ (pO G an p_an ++ (pO G ath p_ath ++ (zO G an z_an ++ (zO G ath z_ath ++ []))))))) (As := [.int (-2)]) (rest := []) C hw hl.1 kX8_answer ml_X8_99 (c_X8_answer l G am as_ ar ac an ath ah _ m_am (-2) u2 e2) (CutX.take mO_f CutX.none) _ (gx_h mO_o) rfl ⟨rfl, rfl⟩ ⟨Nat.le_of_ble_eq_true rfl, Nat.le_of_ble_eq_true rfl⟩ rfl ⟨Nat.zero_le _, Nat.zero_le _⟩ rfl (Nat.le_of_ble_eq_true rfl) dX8_freeing_94 (fun H locs hw => ?_)
      exact fin_i C hw (Option.some.inj hf) (fun o => o.1) (fun o => (mO G am as_ ar ac an ath ah o.2.1 ++ (tO G an t_an ++ (pO G an p_an ++ (pO G ath o.2.2.1 ++ (zO G an z_an ++ (zO G ath o.2.2.2 ++ []))))))) rfl rfl dX8_freeing_97
    · replace hf := ifn hf hc
      refine r_aload0 C hl 0 rfl dX8_freeing_35 ?_
      refine r_get C hw _ (gx_h mO_o) 10 fl_X8_44 rfl dX8_freeing_36 ?_
      refine lv_iconst (v := 1) C.1 C.2.1 dX8_freeing_39 (by decide) ?_
      obtain ⟨u3, e3, hf⟩ := bx hf
      refine r_callVi (ws' := (mO G am as_ ar ac an ath ah m_am ++ (tO G an t_an ++ (pO G an p_an ++ (pO G ath u3.2.1 ++ (zO G an z_an ++ (zO G ath u3.2.2 ++ []))))))) (As := [.int 1]) (rest := []) C hw hl.1 kX3_writeColdest ml_X8_287 (c_X3_writeColdest l G ath _ p_ath z_ath 1 u3 e3) (CutX.skip (CutX.skip (CutX.skip (CutX.take pO_f (CutX.skip (CutX.take zO_f CutX.none)))))) _ (gx_t (gx_t (gx_t (gx_h pO_o)))) rfl ⟨rfl, rfl⟩ ⟨Nat.le_of_ble_eq_true rfl, Nat.le_of_ble_eq_true rfl⟩ rfl ⟨Nat.zero_le _, Nat.zero_le _⟩ rfl (Nat.le_of_ble_eq_true rfl) dX8_freeing_40 (fun H locs hw => ?_)
      refine lv_if_ne (tgt := 53) C.1 C.2.1 dX8_freeing_43 (by decide) (fun hc => ?_) (fun hc => ?_)
      · replace hf := ifn hf hc
        refine r_aload0 C hl 0 rfl dX8_freeing_53 ?_
        refine r_get C hw _ (gx_h mO_o) 10 fl_X8_44 rfl dX8_freeing_54 ?_
        refine r_get C hw _ (gx_t (gx_t (gx_t (gx_h pO_o)))) 3 fl_X8_120 rfl dX8_freeing_57 ?_
        refine r_get C hw _ (gx_t (gx_t (gx_t (gx_t (gx_t (gx_h zO_o)))))) 0 fl_X8_124 rfl dX8_freeing_60 ?_
        refine r_aload0 C hl 0 rfl dX8_freeing_63 ?_
        refine r_get C hw _ (gx_h mO_o) 9 fl_X8_37 rfl dX8_freeing_64 ?_
        refine r_get C hw _ (gx_t (gx_h tO_o)) 2 fl_X8_105 rfl dX8_freeing_67 ?_
        refine r_get C hw _ (gx_t (gx_t (gx_h pO_o))) 3 fl_X8_120 rfl dX8_freeing_70 ?_
        refine r_get C hw _ (gx_t (gx_t (gx_t (gx_t (gx_h zO_o))))) 0 fl_X8_124 rfl dX8_freeing_73 ?_
        refine lv_icmp_ge (tgt := 85) C.1 C.2.1 dX8_freeing_76 (by decide) (fun hc => ?_) (fun hc => ?_)
        · replace hf := ifp hf hc
          refine r_iinc C hl 1 (v1 + 1) [(1, .int (v1 + 1)), (0, .ref (am 99))] rfl (iinc_e (by decide)) (by decide) rfl dX8_freeing_85 (fun ls hl => ?_)
          refine lv_goto (tgt := 29) C.1 C.2.1 dX8_freeing_88 (by decide) ?_
          exact hk29 m_am u3.2.1 u3.2.2 (v1 + 1) hf _ _ hw _ (lv_sub hl [1, 0] rfl)
        · replace hf := ifn hf hc
          refine r_aload0 C hl 0 rfl dX8_freeing_79 ?_
          refine r_iload0 C hl 1 rfl dX8_freeing_80 ?_
          obtain ⟨u4, e4, hf⟩ := bx hf
          refine r_callVi (ws' := (mO G am as_ ar ac an ath ah u4.2 ++ (tO G an t_an ++ (pO G an p_an ++ (pO G ath u3.2.1 ++ (zO G an z_an ++ (zO G ath u3.2.2 ++ []))))))) (As := [.int v1]) (rest := []) C hw hl.1 kX8_answer ml_X8_99 (c_X8_answer l G am as_ ar ac an ath ah _ m_am v1 u4 e4) (CutX.take mO_f CutX.none) _ (gx_h mO_o) rfl ⟨rfl, rfl⟩ ⟨Nat.le_of_ble_eq_true rfl, Nat.le_of_ble_eq_true rfl⟩ rfl ⟨Nat.zero_le _, Nat.zero_le _⟩ rfl (Nat.le_of_ble_eq_true rfl) dX8_freeing_81 (fun H locs hw => ?_)
          exact fin_i C hw (Option.some.inj hf) (fun o => o.1) (fun o => (mO G am as_ ar ac an ath ah o.2.1 ++ (tO G an t_an ++ (pO G an p_an ++ (pO G ath o.2.2.1 ++ (zO G an z_an ++ (zO G ath o.2.2.2 ++ []))))))) rfl rfl dX8_freeing_84
      · replace hf := ifp hf hc
        refine r_aload0 C hl 0 rfl dX8_freeing_46 ?_
        refine lv_bipush (v := (-2)) C.1 C.2.1 dX8_freeing_47 (by decide) ?_
        obtain ⟨u5, e5, hf⟩ := bx hf
        refine r_callVi (ws' := (mO G am as_ ar ac an ath ah u5.2 ++ (tO G an t_an ++ (pO G an p_an ++ (pO G ath u3.2.1 ++ (zO G an z_an ++ (zO G ath u3.2.2 ++ []))))))) (As := [.int (-2)]) (rest := []) C hw hl.1 kX8_answer ml_X8_99 (c_X8_answer l G am as_ ar ac an ath ah _ m_am (-2) u5 e5) (CutX.take mO_f CutX.none) _ (gx_h mO_o) rfl ⟨rfl, rfl⟩ ⟨Nat.le_of_ble_eq_true rfl, Nat.le_of_ble_eq_true rfl⟩ rfl ⟨Nat.zero_le _, Nat.zero_le _⟩ rfl (Nat.le_of_ble_eq_true rfl) dX8_freeing_49 (fun H locs hw => ?_)
        exact fin_i C hw (Option.some.inj hf) (fun o => o.1) (fun o => (mO G am as_ ar ac an ath ah o.2.1 ++ (tO G an t_an ++ (pO G an p_an ++ (pO G ath o.2.2.1 ++ (zO G an z_an ++ (zO G ath o.2.2.2 ++ []))))))) rfl rfl dX8_freeing_52
  have hL_29 : ∀ n : Nat, ∀ (m_am : Pic) (p_ath : Pic) (z_ath : Pic) (v1 : Int32), L_X8_freeing_29 t_an p_an z_an  n m_am p_ath z_ath v1 = some out → ∀ (H : Heap) (locs : List Loc), Wd G A s H locs (mO G am as_ ar ac an ath ah m_am ++ (tO G an t_an ++ (pO G an p_an ++ (pO G ath p_ath ++ (zO G an z_an ++ (zO G ath z_ath ++ [])))))) → ∀ ls : Array Slot, lv_has ls 2 [(0, .ref (am 99)), (1, .int v1)] → W p l e ({ frames := 4, cells := 0, slots := 0, locals := 88 }) s m [.ref (am 99)].toArray below meth c H locs 0 0 (MQ below (Ans G out.1 A (mO G am as_ ar ac an ath ah out.2.1 ++ (tO G an t_an ++ (pO G an p_an ++ (pO G ath out.2.2.1 ++ (zO G an z_an ++ (zO G ath out.2.2.2 ++ []))))))) [.ref (am 99)].toArray s 0 0 A) (F0 m 29 ls []) := by
    intro  n
    induction n with
    | zero => intro m_am p_ath z_ath v1 hf; cases hf
    | succ n ih => exact hB_29 _ ih
  unfold f_X8_freeing at hf
  refine r_aload0 C hl 0 rfl dX8_freeing_0 ?_
  refine r_get C hw _ (gx_h mO_o) 2 fl_X8_85 rfl dX8_freeing_1 ?_
  refine lv_if_ne (tgt := 13) C.1 C.2.1 dX8_freeing_4 (by decide) (fun hc => ?_) (fun hc => ?_)
  · replace hf := ifn hf hc
    refine r_aload0 C hl 0 rfl dX8_freeing_13 ?_
    refine r_get C hw _ (gx_h mO_o) 10 fl_X8_44 rfl dX8_freeing_14 ?_
    refine r_aload0 C hl 0 rfl dX8_freeing_17 ?_
    refine r_get C hw _ (gx_h mO_o) 9 fl_X8_37 rfl dX8_freeing_18 ?_
    refine r_get C hw _ (gx_t (gx_h tO_o)) 2 fl_X8_105 rfl dX8_freeing_21 ?_
    obtain ⟨u1, e1, hf⟩ := bx hf
    refine r_callVv (ws' := (mO G am as_ ar ac an ath ah m_am ++ (tO G an t_an ++ (pO G an p_an ++ (pO G ath u1.1 ++ (zO G an z_an ++ (zO G ath u1.2 ++ []))))))) (As := [.ref (an 99)]) (rest := []) C hw hl.1 kX3_copyFrom ml_X8_215 (c_X3_copyFrom l G ath an _ p_an p_ath z_an z_ath u1 e1) (CutX.skip (CutX.skip (CutX.take pO_f (CutX.take pO_f (CutX.take zO_f (CutX.take zO_f CutX.none)))))) _ (gx_t (gx_t (gx_t (gx_h pO_o)))) rfl ⟨rfl, rfl⟩ ⟨Nat.le_of_ble_eq_true rfl, Nat.le_of_ble_eq_true rfl⟩ rfl ⟨Nat.zero_le _, Nat.zero_le _⟩ rfl (Nat.le_of_ble_eq_true rfl) dX8_freeing_24 (fun H locs hw => ?_)
    refine lv_iconst (v := 1) C.1 C.2.1 dX8_freeing_27 (by decide) ?_
    refine r_istore0 C hl [(1, .int 1), (0, .ref (am 99))] (by decide) rfl dX8_freeing_28 (fun ls hl => ?_)
    exact hL_29  FU m_am u1.1 u1.2 1 hf _ _ hw _ (lv_sub hl [1, 0] rfl)
  · replace hf := ifp hf hc
    refine r_aload0 C hl 0 rfl dX8_freeing_7 ?_
    refine lv_iconst (v := 1) C.1 C.2.1 dX8_freeing_8 (by decide) ?_
    obtain ⟨u6, e6, hf⟩ := bx hf
    refine r_callVi (ws' := (mO G am as_ ar ac an ath ah u6.2 ++ (tO G an t_an ++ (pO G an p_an ++ (pO G ath p_ath ++ (zO G an z_an ++ (zO G ath z_ath ++ []))))))) (As := [.int 1]) (rest := []) C hw hl.1 kX8_refuse ml_X8_63 (c_X8_refuse l G am as_ ar ac an ath ah _ m_am 1 u6 e6) (CutX.take mO_f CutX.none) _ (gx_h mO_o) rfl ⟨rfl, rfl⟩ ⟨Nat.le_of_ble_eq_true rfl, Nat.le_of_ble_eq_true rfl⟩ rfl ⟨Nat.zero_le _, Nat.zero_le _⟩ rfl (Nat.le_of_ble_eq_true rfl) dX8_freeing_9 (fun H locs hw => ?_)
    exact fin_i C hw (Option.some.inj hf) (fun o => o.1) (fun o => (mO G am as_ ar ac an ath ah o.2.1 ++ (tO G an t_an ++ (pO G an p_an ++ (pO G ath o.2.2.1 ++ (zO G an z_an ++ (zO G ath o.2.2.2 ++ []))))))) rfl rfl dX8_freeing_12
set_option maxHeartbeats 4000000 in
set_option maxRecDepth 100000 in
theorem c_X8_holds (l : Launch) (G : GG) (am : Nat → Nat) (as_ : Nat → Nat) (ar : Nat → Nat) (ac : Nat → Nat) (an : Nat → Nat) (ath : Nat → Nat) (ah : Nat → Nat) (sz : Nat) (m_am : Pic) (t_an : Pic) (p_an : Pic) (p_ath : Pic) (z_an : Pic) (z_ath : Pic) (x1 : Int32) (out : Int32 × Pic × Pic × Pic) (hf : f_X8_holds m_am t_an p_an p_ath z_an z_ath x1 = some out) : Met l yX8_holds (.code yX8_holds cX8_holds 2 (some .int) :: BT) ({ frames := 6, cells := 0, slots := 0, locals := 134 }) (va_Pc [.ref (am 99), .int x1] (PreW G sz (mO G am as_ ar ac an ath ah m_am ++ (tO G an t_an ++ (pO G an p_an ++ (pO G ath p_ath ++ (zO G an z_an ++ (zO G ath z_ath ++ [])))))))) (Ans G out.1 (va_A (mO G am as_ ar ac an ath ah m_am ++ (tO G an t_an ++ (pO G an p_an ++ (pO G ath p_ath ++ (zO G an z_an ++ (zO G ath z_ath ++ [])))))) sz) (mO G am as_ ar ac an ath ah out.2.1 ++ (tO G an t_an ++ (pO G an p_an ++ (pO G ath out.2.2.1 ++ (zO G an z_an ++ (zO G ath out.2.2.2 ++ []))))))) 0 0 (va_A (mO G am as_ ar ac an ath ah m_am ++ (tO G an t_an ++ (pO G an p_an ++ (pO G ath p_ath ++ (zO G an z_an ++ (zO G ath z_ath ++ [])))))) sz) := by
  refine Met.into (by decide) (Nat.le_of_ble_eq_true rfl) ?_
  intro p e s m below meth c C hsz ls hl hw
  have hl : lv_has ls 2 [(0, .ref (am 99)), (1, .int x1)] := hl
  clear hsz
  generalize va_A (mO G am as_ ar ac an ath ah m_am ++ (tO G an t_an ++ (pO G an p_an ++ (pO G ath p_ath ++ (zO G an z_an ++ (zO G ath z_ath ++ [])))))) sz = A at hw ⊢
  unfold f_X8_holds at hf
  refine r_aload0 C hl 0 rfl dX8_holds_0 ?_
  refine r_get C hw _ (gx_h mO_o) 2 fl_X8_85 rfl dX8_holds_1 ?_
  refine lv_if_ne (tgt := 13) C.1 C.2.1 dX8_holds_4 (by decide) (fun hc => ?_) (fun hc => ?_)
  · replace hf := ifn hf hc
    refine r_aload0 C hl 0 rfl dX8_holds_13 ?_
    refine r_iload0 C hl 1 rfl dX8_holds_14 ?_
    obtain ⟨u1, e1, hf⟩ := bx hf
    refine r_callVv (ws' := (mO G am as_ ar ac an ath ah m_am ++ (tO G an t_an ++ (pO G an p_an ++ (pO G ath u1.1 ++ (zO G an z_an ++ (zO G ath u1.2 ++ []))))))) (As := [.int x1]) (rest := []) C hw hl.1 kX8_thinkOfPool ml_X8_280 (c_X8_thinkOfPool l G am as_ ar ac an ath ah _ m_am t_an p_an p_ath z_an z_ath x1 u1 e1) (CutX.take mO_f (CutX.take tO_f (CutX.take pO_f (CutX.take pO_f (CutX.take zO_f (CutX.take zO_f CutX.none)))))) _ (gx_h mO_o) rfl ⟨rfl, rfl⟩ ⟨Nat.le_of_ble_eq_true rfl, Nat.le_of_ble_eq_true rfl⟩ rfl ⟨Nat.zero_le _, Nat.zero_le _⟩ rfl (Nat.le_of_ble_eq_true rfl) dX8_holds_15 (fun H locs hw => ?_)
    refine r_aload0 C hl 0 rfl dX8_holds_18 ?_
    refine r_get C hw _ (gx_h mO_o) 10 fl_X8_44 rfl dX8_holds_19 ?_
    obtain ⟨u2, e2, hf⟩ := bx hf
    refine r_callVi (ws' := (mO G am as_ ar ac an ath ah m_am ++ (tO G an t_an ++ (pO G an p_an ++ (pO G ath u1.1 ++ (zO G an z_an ++ (zO G ath u1.2 ++ []))))))) (As := []) (rest := []) C hw hl.1 kX3_coldestLoose ml_X8_290 (c_X3_coldestLoose l G ath _ u1.1 u2 e2) (CutX.skip (CutX.skip (CutX.skip (CutX.take pO_f CutX.none)))) _ (gx_t (gx_t (gx_t (gx_h pO_o)))) rfl ⟨rfl, rfl⟩ ⟨Nat.le_of_ble_eq_true rfl, Nat.le_of_ble_eq_true rfl⟩ rfl ⟨Nat.zero_le _, Nat.zero_le _⟩ rfl (Nat.le_of_ble_eq_true rfl) dX8_holds_22 (fun H locs hw => ?_)
    refine lv_if_ge (tgt := 34) C.1 C.2.1 dX8_holds_25 (by decide) (fun hc => ?_) (fun hc => ?_)
    · replace hf := ifp hf hc
      refine r_aload0 C hl 0 rfl dX8_holds_34 ?_
      refine lv_iconst (v := 1) C.1 C.2.1 dX8_holds_35 (by decide) ?_
      refine r_aload0 C hl 0 rfl dX8_holds_36 ?_
      refine r_get C hw _ (gx_h mO_o) 10 fl_X8_44 rfl dX8_holds_37 ?_
      refine r_get C hw _ (gx_t (gx_t (gx_t (gx_h pO_o)))) 3 fl_X8_120 rfl dX8_holds_40 ?_
      refine r_get C hw _ (gx_t (gx_t (gx_t (gx_t (gx_t (gx_h zO_o)))))) 0 fl_X8_124 rfl dX8_holds_43 ?_
      refine r_max C hl.1 ml_X8_293 (Nat.le_of_ble_eq_true rfl) (Nat.le_of_ble_eq_true rfl) ⟨Nat.zero_le _, Nat.zero_le _⟩ dX8_holds_46 ?_
      obtain ⟨u4, e4, hf⟩ := bx hf
      refine r_callVi (ws' := (mO G am as_ ar ac an ath ah u4.2 ++ (tO G an t_an ++ (pO G an p_an ++ (pO G ath u1.1 ++ (zO G an z_an ++ (zO G ath u1.2 ++ []))))))) (As := [.int (if 1 < (gS u1.2 0) then (gS u1.2 0) else 1)]) (rest := []) C hw hl.1 kX8_answer ml_X8_99 (c_X8_answer l G am as_ ar ac an ath ah _ m_am (if 1 < (gS u1.2 0) then (gS u1.2 0) else 1) u4 e4) (CutX.take mO_f CutX.none) _ (gx_h mO_o) rfl ⟨rfl, rfl⟩ ⟨Nat.le_of_ble_eq_true rfl, Nat.le_of_ble_eq_true rfl⟩ rfl ⟨Nat.zero_le _, Nat.zero_le _⟩ rfl (Nat.le_of_ble_eq_true rfl) dX8_holds_49 (fun H locs hw => ?_)
      exact fin_i C hw (Option.some.inj hf) (fun o => o.1) (fun o => (mO G am as_ ar ac an ath ah o.2.1 ++ (tO G an t_an ++ (pO G an p_an ++ (pO G ath o.2.2.1 ++ (zO G an z_an ++ (zO G ath o.2.2.2 ++ []))))))) rfl rfl dX8_holds_52
    · replace hf := ifn hf hc
      refine r_aload0 C hl 0 rfl dX8_holds_28 ?_
      refine lv_iconst (v := 1) C.1 C.2.1 dX8_holds_29 (by decide) ?_
      obtain ⟨u5, e5, hf⟩ := bx hf
      refine r_callVi (ws' := (mO G am as_ ar ac an ath ah u5.2 ++ (tO G an t_an ++ (pO G an p_an ++ (pO G ath u1.1 ++ (zO G an z_an ++ (zO G ath u1.2 ++ []))))))) (As := [.int 1]) (rest := []) C hw hl.1 kX8_answer ml_X8_99 (c_X8_answer l G am as_ ar ac an ath ah _ m_am 1 u5 e5) (CutX.take mO_f CutX.none) _ (gx_h mO_o) rfl ⟨rfl, rfl⟩ ⟨Nat.le_of_ble_eq_true rfl, Nat.le_of_ble_eq_true rfl⟩ rfl ⟨Nat.zero_le _, Nat.zero_le _⟩ rfl (Nat.le_of_ble_eq_true rfl) dX8_holds_30 (fun H locs hw => ?_)
      exact fin_i C hw (Option.some.inj hf) (fun o => o.1) (fun o => (mO G am as_ ar ac an ath ah o.2.1 ++ (tO G an t_an ++ (pO G an p_an ++ (pO G ath o.2.2.1 ++ (zO G an z_an ++ (zO G ath o.2.2.2 ++ []))))))) rfl rfl dX8_holds_33
  · replace hf := ifp hf hc
    refine r_aload0 C hl 0 rfl dX8_holds_7 ?_
    refine lv_iconst (v := 1) C.1 C.2.1 dX8_holds_8 (by decide) ?_
    obtain ⟨u6, e6, hf⟩ := bx hf
    refine r_callVi (ws' := (mO G am as_ ar ac an ath ah u6.2 ++ (tO G an t_an ++ (pO G an p_an ++ (pO G ath p_ath ++ (zO G an z_an ++ (zO G ath z_ath ++ []))))))) (As := [.int 1]) (rest := []) C hw hl.1 kX8_refuse ml_X8_63 (c_X8_refuse l G am as_ ar ac an ath ah _ m_am 1 u6 e6) (CutX.take mO_f CutX.none) _ (gx_h mO_o) rfl ⟨rfl, rfl⟩ ⟨Nat.le_of_ble_eq_true rfl, Nat.le_of_ble_eq_true rfl⟩ rfl ⟨Nat.zero_le _, Nat.zero_le _⟩ rfl (Nat.le_of_ble_eq_true rfl) dX8_holds_9 (fun H locs hw => ?_)
    exact fin_i C hw (Option.some.inj hf) (fun o => o.1) (fun o => (mO G am as_ ar ac an ath ah o.2.1 ++ (tO G an t_an ++ (pO G an p_an ++ (pO G ath o.2.2.1 ++ (zO G an z_an ++ (zO G ath o.2.2.2 ++ []))))))) rfl rfl dX8_holds_12
set_option maxHeartbeats 4000000 in
set_option maxRecDepth 100000 in
theorem c_X8_pushes (l : Launch) (G : GG) (am : Nat → Nat) (as_ : Nat → Nat) (ar : Nat → Nat) (ac : Nat → Nat) (an : Nat → Nat) (ath : Nat → Nat) (ah : Nat → Nat) (sz : Nat) (m_am : Pic) (s_as_ : Pic) (t_an : Pic) (p_an : Pic) (p_ath : Pic) (z_an : Pic) (z_ath : Pic) (e_an : Pic) (x1 : Int32) (x2 : Int32) (out : Int32 × Pic × Pic × Pic) (hf : f_X8_pushes m_am s_as_ t_an p_an p_ath z_an z_ath e_an x1 x2 = some out) : Met l yX8_pushes (.code yX8_pushes cX8_pushes 3 (some .int) :: BT) ({ frames := 6, cells := 0, slots := 0, locals := 139 }) (va_Pc [.ref (am 99), .int x1, .int x2] (PreW G sz (mO G am as_ ar ac an ath ah m_am ++ (sO G as_ s_as_ ++ (tO G an t_an ++ (pO G an p_an ++ (pO G ath p_ath ++ (zO G an z_an ++ (zO G ath z_ath ++ (eO G an e_an ++ [])))))))))) (Ans G out.1 (va_A (mO G am as_ ar ac an ath ah m_am ++ (sO G as_ s_as_ ++ (tO G an t_an ++ (pO G an p_an ++ (pO G ath p_ath ++ (zO G an z_an ++ (zO G ath z_ath ++ (eO G an e_an ++ [])))))))) sz) (mO G am as_ ar ac an ath ah out.2.1 ++ (sO G as_ s_as_ ++ (tO G an t_an ++ (pO G an p_an ++ (pO G ath out.2.2.1 ++ (zO G an z_an ++ (zO G ath out.2.2.2 ++ (eO G an e_an ++ []))))))))) 0 0 (va_A (mO G am as_ ar ac an ath ah m_am ++ (sO G as_ s_as_ ++ (tO G an t_an ++ (pO G an p_an ++ (pO G ath p_ath ++ (zO G an z_an ++ (zO G ath z_ath ++ (eO G an e_an ++ [])))))))) sz) := by
  refine Met.into (by decide) (Nat.le_of_ble_eq_true rfl) ?_
  intro p e s m below meth c C hsz ls hl hw
  have hl : lv_has ls 3 [(0, .ref (am 99)), (1, .int x1), (2, .int x2)] := hl
  clear hsz
  generalize va_A (mO G am as_ ar ac an ath ah m_am ++ (sO G as_ s_as_ ++ (tO G an t_an ++ (pO G an p_an ++ (pO G ath p_ath ++ (zO G an z_an ++ (zO G ath z_ath ++ (eO G an e_an ++ [])))))))) sz = A at hw ⊢
  have hB_16 : ∀ (m_am : Pic) (p_ath : Pic) (z_ath : Pic), b_X8_pushes_16 s_as_ t_an p_an z_an e_an x1 x2  m_am p_ath z_ath = some out → ∀ (H : Heap) (locs : List Loc), Wd G A s H locs (mO G am as_ ar ac an ath ah m_am ++ (sO G as_ s_as_ ++ (tO G an t_an ++ (pO G an p_an ++ (pO G ath p_ath ++ (zO G an z_an ++ (zO G ath z_ath ++ (eO G an e_an ++ [])))))))) → ∀ ls : Array Slot, lv_has ls 3 [(0, .ref (am 99))] → W p l e ({ frames := 6, cells := 0, slots := 0, locals := 139 }) s m [.ref (am 99), .int x1, .int x2].toArray below meth c H locs 0 0 (MQ below (Ans G out.1 A (mO G am as_ ar ac an ath ah out.2.1 ++ (sO G as_ s_as_ ++ (tO G an t_an ++ (pO G an p_an ++ (pO G ath out.2.2.1 ++ (zO G an z_an ++ (zO G ath out.2.2.2 ++ (eO G an e_an ++ []))))))))) [.ref (am 99), .int x1, .int x2].toArray s 0 0 A) (F0 m 16 ls []) := by
    intro m_am p_ath z_ath hf H locs hw ls hl
    unfold b_X8_pushes_16 at hf
    refine r_aload0 C hl 0 rfl dX8_pushes_16 ?_
    refine lv_iconst (v := 1) C.1 C.2.1 dX8_pushes_17 (by decide) ?_
    obtain ⟨u2, e2, hf⟩ := bx hf
    refine r_callVi (ws' := (mO G am as_ ar ac an ath ah u2.2 ++ (sO G as_ s_as_ ++ (tO G an t_an ++ (pO G an p_an ++ (pO G ath p_ath ++ (zO G an z_an ++ (zO G ath z_ath ++ (eO G an e_an ++ []))))))))) (As := [.int 1]) (rest := []) C hw hl.1 kX8_refuse ml_X8_63 (c_X8_refuse l G am as_ ar ac an ath ah _ m_am 1 u2 e2) (CutX.take mO_f CutX.none) _ (gx_h mO_o) rfl ⟨rfl, rfl⟩ ⟨Nat.le_of_ble_eq_true rfl, Nat.le_of_ble_eq_true rfl⟩ rfl ⟨Nat.zero_le _, Nat.zero_le _⟩ rfl (Nat.le_of_ble_eq_true rfl) dX8_pushes_18 (fun H locs hw => ?_)
    exact fin_i C hw (Option.some.inj hf) (fun o => o.1) (fun o => (mO G am as_ ar ac an ath ah o.2.1 ++ (sO G as_ s_as_ ++ (tO G an t_an ++ (pO G an p_an ++ (pO G ath o.2.2.1 ++ (zO G an z_an ++ (zO G ath o.2.2.2 ++ (eO G an e_an ++ []))))))))) rfl rfl dX8_pushes_21
  unfold f_X8_pushes at hf
  refine r_aload0 C hl 0 rfl dX8_pushes_0 ?_
  refine r_iload0 C hl 1 rfl dX8_pushes_1 ?_
  obtain ⟨u1, e1, hf⟩ := bx hf
  refine r_callVi (ws' := (mO G am as_ ar ac an ath ah m_am ++ (sO G as_ s_as_ ++ (tO G an t_an ++ (pO G an p_an ++ (pO G ath p_ath ++ (zO G an z_an ++ (zO G ath z_ath ++ (eO G an e_an ++ []))))))))) (As := [.int x1]) (rest := []) C hw hl.1 kX8_noPage ml_X8_247 (c_X8_noPage l G am as_ ar ac an ath ah _ m_am x1 u1 e1) (CutX.take mO_f CutX.none) _ (gx_h mO_o) rfl ⟨rfl, rfl⟩ ⟨Nat.le_of_ble_eq_true rfl, Nat.le_of_ble_eq_true rfl⟩ rfl ⟨Nat.zero_le _, Nat.zero_le _⟩ rfl (Nat.le_of_ble_eq_true rfl) dX8_pushes_2 (fun H locs hw => ?_)
  refine lv_if_ne (tgt := 16) C.1 C.2.1 dX8_pushes_5 (by decide) (fun hc => ?_) (fun hc => ?_)
  · replace hf := ifn hf hc
    exact hB_16  m_am p_ath z_ath hf _ _ hw _ (lv_sub hl [0] rfl)
  · replace hf := ifp hf hc
    refine r_aload0 C hl 0 rfl dX8_pushes_8 ?_
    refine r_iload0 C hl 2 rfl dX8_pushes_9 ?_
    obtain ⟨u3, e3, hf⟩ := bx hf
    refine r_callVi (ws' := (mO G am as_ ar ac an ath ah m_am ++ (sO G as_ s_as_ ++ (tO G an t_an ++ (pO G an p_an ++ (pO G ath p_ath ++ (zO G an z_an ++ (zO G ath z_ath ++ (eO G an e_an ++ []))))))))) (As := [.int x2]) (rest := []) C hw hl.1 kX8_noData ml_X8_141 (c_X8_noData l G am as_ ar ac an ath ah _ m_am s_as_ x2 u3 e3) (CutX.take mO_f (CutX.take sO_f CutX.none)) _ (gx_h mO_o) rfl ⟨rfl, rfl⟩ ⟨Nat.le_of_ble_eq_true rfl, Nat.le_of_ble_eq_true rfl⟩ rfl ⟨Nat.zero_le _, Nat.zero_le _⟩ rfl (Nat.le_of_ble_eq_true rfl) dX8_pushes_10 (fun H locs hw => ?_)
    refine lv_if_eq (tgt := 22) C.1 C.2.1 dX8_pushes_13 (by decide) (fun hc => ?_) (fun hc => ?_)
    · replace hf := ifp hf hc
      refine r_aload0 C hl 0 rfl dX8_pushes_22 ?_
      refine r_iload0 C hl 1 rfl dX8_pushes_23 ?_
      refine r_iload0 C hl 2 rfl dX8_pushes_24 ?_
      obtain ⟨u4, e4, hf⟩ := bx hf
      refine r_callVv (ws' := (mO G am as_ ar ac an ath ah m_am ++ (sO G as_ s_as_ ++ (tO G an t_an ++ (pO G an p_an ++ (pO G ath u4.1 ++ (zO G an z_an ++ (zO G ath u4.2 ++ (eO G an e_an ++ []))))))))) (As := [.int x1, .int x2]) (rest := []) C hw hl.1 kX8_thinkOfStoring ml_X8_298 (c_X8_thinkOfStoring l G am as_ ar ac an ath ah _ m_am t_an p_an p_ath z_an z_ath e_an x1 x2 u4 e4) (CutX.take mO_f (CutX.skip (CutX.take tO_f (CutX.take pO_f (CutX.take pO_f (CutX.take zO_f (CutX.take zO_f (CutX.take eO_f CutX.none)))))))) _ (gx_h mO_o) rfl ⟨rfl, rfl⟩ ⟨Nat.le_of_ble_eq_true rfl, Nat.le_of_ble_eq_true rfl⟩ rfl ⟨Nat.zero_le _, Nat.zero_le _⟩ rfl (Nat.le_of_ble_eq_true rfl) dX8_pushes_25 (fun H locs hw => ?_)
      refine r_aload0 C hl 0 rfl dX8_pushes_28 ?_
      refine r_aload0 C hl 0 rfl dX8_pushes_29 ?_
      refine r_get C hw _ (gx_h mO_o) 10 fl_X8_44 rfl dX8_pushes_30 ?_
      refine r_get C hw _ (gx_t (gx_t (gx_t (gx_t (gx_h pO_o))))) 14 fl_X8_302 rfl dX8_pushes_33 ?_
      obtain ⟨u5, e5, hf⟩ := bx hf
      refine r_callVi (ws' := (mO G am as_ ar ac an ath ah u5.2 ++ (sO G as_ s_as_ ++ (tO G an t_an ++ (pO G an p_an ++ (pO G ath u4.1 ++ (zO G an z_an ++ (zO G ath u4.2 ++ (eO G an e_an ++ []))))))))) (As := [.int (gS u4.1 14)]) (rest := []) C hw hl.1 kX8_answer ml_X8_99 (c_X8_answer l G am as_ ar ac an ath ah _ m_am (gS u4.1 14) u5 e5) (CutX.take mO_f CutX.none) _ (gx_h mO_o) rfl ⟨rfl, rfl⟩ ⟨Nat.le_of_ble_eq_true rfl, Nat.le_of_ble_eq_true rfl⟩ rfl ⟨Nat.zero_le _, Nat.zero_le _⟩ rfl (Nat.le_of_ble_eq_true rfl) dX8_pushes_36 (fun H locs hw => ?_)
      exact fin_i C hw (Option.some.inj hf) (fun o => o.1) (fun o => (mO G am as_ ar ac an ath ah o.2.1 ++ (sO G as_ s_as_ ++ (tO G an t_an ++ (pO G an p_an ++ (pO G ath o.2.2.1 ++ (zO G an z_an ++ (zO G ath o.2.2.2 ++ (eO G an e_an ++ []))))))))) rfl rfl dX8_pushes_39
    · replace hf := ifn hf hc
      exact hB_16  m_am p_ath z_ath hf _ _ hw _ (lv_sub hl [0] rfl)
set_option maxHeartbeats 4000000 in
set_option maxRecDepth 100000 in
theorem c_X8_pushed (l : Launch) (G : GG) (am : Nat → Nat) (as_ : Nat → Nat) (ar : Nat → Nat) (ac : Nat → Nat) (an : Nat → Nat) (ath : Nat → Nat) (ah : Nat → Nat) (sz : Nat) (m_am : Pic) (s_as_ : Pic) (t_an : Pic) (p_an : Pic) (p_ath : Pic) (z_an : Pic) (z_ath : Pic) (e_an : Pic) (x1 : Int32) (x2 : Int32) (x3 : Int32) (out : Int32 × Pic × Pic × Pic) (hf : f_X8_pushed m_am s_as_ t_an p_an p_ath z_an z_ath e_an x1 x2 x3 = some out) : Met l yX8_pushed (.code yX8_pushed cX8_pushed 4 (some .int) :: BT) ({ frames := 6, cells := 0, slots := 0, locals := 139 }) (va_Pc [.ref (am 99), .int x1, .int x2, .int x3] (PreW G sz (mO G am as_ ar ac an ath ah m_am ++ (sO G as_ s_as_ ++ (tO G an t_an ++ (pO G an p_an ++ (pO G ath p_ath ++ (zO G an z_an ++ (zO G ath z_ath ++ (eO G an e_an ++ [])))))))))) (Ans G out.1 (va_A (mO G am as_ ar ac an ath ah m_am ++ (sO G as_ s_as_ ++ (tO G an t_an ++ (pO G an p_an ++ (pO G ath p_ath ++ (zO G an z_an ++ (zO G ath z_ath ++ (eO G an e_an ++ [])))))))) sz) (mO G am as_ ar ac an ath ah out.2.1 ++ (sO G as_ s_as_ ++ (tO G an t_an ++ (pO G an p_an ++ (pO G ath out.2.2.1 ++ (zO G an z_an ++ (zO G ath out.2.2.2 ++ (eO G an e_an ++ []))))))))) 0 0 (va_A (mO G am as_ ar ac an ath ah m_am ++ (sO G as_ s_as_ ++ (tO G an t_an ++ (pO G an p_an ++ (pO G ath p_ath ++ (zO G an z_an ++ (zO G ath z_ath ++ (eO G an e_an ++ [])))))))) sz) := by
  refine Met.into (by decide) (Nat.le_of_ble_eq_true rfl) ?_
  intro p e s m below meth c C hsz ls hl hw
  have hl : lv_has ls 4 [(0, .ref (am 99)), (1, .int x1), (2, .int x2), (3, .int x3)] := hl
  clear hsz
  generalize va_A (mO G am as_ ar ac an ath ah m_am ++ (sO G as_ s_as_ ++ (tO G an t_an ++ (pO G an p_an ++ (pO G ath p_ath ++ (zO G an z_an ++ (zO G ath z_ath ++ (eO G an e_an ++ [])))))))) sz = A at hw ⊢
  have hB_16 : ∀ (m_am : Pic) (p_ath : Pic) (z_ath : Pic), b_X8_pushed_16 s_as_ t_an p_an z_an e_an x1 x2 x3  m_am p_ath z_ath = some out → ∀ (H : Heap) (locs : List Loc), Wd G A s H locs (mO G am as_ ar ac an ath ah m_am ++ (sO G as_ s_as_ ++ (tO G an t_an ++ (pO G an p_an ++ (pO G ath p_ath ++ (zO G an z_an ++ (zO G ath z_ath ++ (eO G an e_an ++ [])))))))) → ∀ ls : Array Slot, lv_has ls 4 [(0, .ref (am 99))] → W p l e ({ frames := 6, cells := 0, slots := 0, locals := 139 }) s m [.ref (am 99), .int x1, .int x2, .int x3].toArray below meth c H locs 0 0 (MQ below (Ans G out.1 A (mO G am as_ ar ac an ath ah out.2.1 ++ (sO G as_ s_as_ ++ (tO G an t_an ++ (pO G an p_an ++ (pO G ath out.2.2.1 ++ (zO G an z_an ++ (zO G ath out.2.2.2 ++ (eO G an e_an ++ []))))))))) [.ref (am 99), .int x1, .int x2, .int x3].toArray s 0 0 A) (F0 m 16 ls []) := by
    intro m_am p_ath z_ath hf H locs hw ls hl
    unfold b_X8_pushed_16 at hf
    refine r_aload0 C hl 0 rfl dX8_pushed_16 ?_
    refine lv_iconst (v := 1) C.1 C.2.1 dX8_pushed_17 (by decide) ?_
    obtain ⟨u2, e2, hf⟩ := bx hf
    refine r_callVi (ws' := (mO G am as_ ar ac an ath ah u2.2 ++ (sO G as_ s_as_ ++ (tO G an t_an ++ (pO G an p_an ++ (pO G ath p_ath ++ (zO G an z_an ++ (zO G ath z_ath ++ (eO G an e_an ++ []))))))))) (As := [.int 1]) (rest := []) C hw hl.1 kX8_refuse ml_X8_63 (c_X8_refuse l G am as_ ar ac an ath ah _ m_am 1 u2 e2) (CutX.take mO_f CutX.none) _ (gx_h mO_o) rfl ⟨rfl, rfl⟩ ⟨Nat.le_of_ble_eq_true rfl, Nat.le_of_ble_eq_true rfl⟩ rfl ⟨Nat.zero_le _, Nat.zero_le _⟩ rfl (Nat.le_of_ble_eq_true rfl) dX8_pushed_18 (fun H locs hw => ?_)
    exact fin_i C hw (Option.some.inj hf) (fun o => o.1) (fun o => (mO G am as_ ar ac an ath ah o.2.1 ++ (sO G as_ s_as_ ++ (tO G an t_an ++ (pO G an p_an ++ (pO G ath o.2.2.1 ++ (zO G an z_an ++ (zO G ath o.2.2.2 ++ (eO G an e_an ++ []))))))))) rfl rfl dX8_pushed_21
  have hB_43 : ∀ (m_am : Pic) (p_ath : Pic) (z_ath : Pic), b_X8_pushed_43 s_as_ t_an p_an z_an e_an x1 x2 x3  m_am p_ath z_ath = some out → ∀ (H : Heap) (locs : List Loc), Wd G A s H locs (mO G am as_ ar ac an ath ah m_am ++ (sO G as_ s_as_ ++ (tO G an t_an ++ (pO G an p_an ++ (pO G ath p_ath ++ (zO G an z_an ++ (zO G ath z_ath ++ (eO G an e_an ++ [])))))))) → ∀ ls : Array Slot, lv_has ls 4 [(0, .ref (am 99))] → W p l e ({ frames := 6, cells := 0, slots := 0, locals := 139 }) s m [.ref (am 99), .int x1, .int x2, .int x3].toArray below meth c H locs 0 0 (MQ below (Ans G out.1 A (mO G am as_ ar ac an ath ah out.2.1 ++ (sO G as_ s_as_ ++ (tO G an t_an ++ (pO G an p_an ++ (pO G ath out.2.2.1 ++ (zO G an z_an ++ (zO G ath out.2.2.2 ++ (eO G an e_an ++ []))))))))) [.ref (am 99), .int x1, .int x2, .int x3].toArray s 0 0 A) (F0 m 43 ls []) := by
    intro m_am p_ath z_ath hf H locs hw ls hl
    unfold b_X8_pushed_43 at hf
    refine r_aload0 C hl 0 rfl dX8_pushed_43 ?_
    refine lv_iconst (v := 1) C.1 C.2.1 dX8_pushed_44 (by decide) ?_
    obtain ⟨u5, e5, hf⟩ := bx hf
    refine r_callVi (ws' := (mO G am as_ ar ac an ath ah u5.2 ++ (sO G as_ s_as_ ++ (tO G an t_an ++ (pO G an p_an ++ (pO G ath p_ath ++ (zO G an z_an ++ (zO G ath z_ath ++ (eO G an e_an ++ []))))))))) (As := [.int 1]) (rest := []) C hw hl.1 kX8_refuse ml_X8_63 (c_X8_refuse l G am as_ ar ac an ath ah _ m_am 1 u5 e5) (CutX.take mO_f CutX.none) _ (gx_h mO_o) rfl ⟨rfl, rfl⟩ ⟨Nat.le_of_ble_eq_true rfl, Nat.le_of_ble_eq_true rfl⟩ rfl ⟨Nat.zero_le _, Nat.zero_le _⟩ rfl (Nat.le_of_ble_eq_true rfl) dX8_pushed_45 (fun H locs hw => ?_)
    exact fin_i C hw (Option.some.inj hf) (fun o => o.1) (fun o => (mO G am as_ ar ac an ath ah o.2.1 ++ (sO G as_ s_as_ ++ (tO G an t_an ++ (pO G an p_an ++ (pO G ath o.2.2.1 ++ (zO G an z_an ++ (zO G ath o.2.2.2 ++ (eO G an e_an ++ []))))))))) rfl rfl dX8_pushed_48
  unfold f_X8_pushed at hf
  refine r_aload0 C hl 0 rfl dX8_pushed_0 ?_
  refine r_iload0 C hl 1 rfl dX8_pushed_1 ?_
  obtain ⟨u1, e1, hf⟩ := bx hf
  refine r_callVi (ws' := (mO G am as_ ar ac an ath ah m_am ++ (sO G as_ s_as_ ++ (tO G an t_an ++ (pO G an p_an ++ (pO G ath p_ath ++ (zO G an z_an ++ (zO G ath z_ath ++ (eO G an e_an ++ []))))))))) (As := [.int x1]) (rest := []) C hw hl.1 kX8_noPage ml_X8_247 (c_X8_noPage l G am as_ ar ac an ath ah _ m_am x1 u1 e1) (CutX.take mO_f CutX.none) _ (gx_h mO_o) rfl ⟨rfl, rfl⟩ ⟨Nat.le_of_ble_eq_true rfl, Nat.le_of_ble_eq_true rfl⟩ rfl ⟨Nat.zero_le _, Nat.zero_le _⟩ rfl (Nat.le_of_ble_eq_true rfl) dX8_pushed_2 (fun H locs hw => ?_)
  refine lv_if_ne (tgt := 16) C.1 C.2.1 dX8_pushed_5 (by decide) (fun hc => ?_) (fun hc => ?_)
  · replace hf := ifn hf hc
    exact hB_16  m_am p_ath z_ath hf _ _ hw _ (lv_sub hl [0] rfl)
  · replace hf := ifp hf hc
    refine r_aload0 C hl 0 rfl dX8_pushed_8 ?_
    refine r_iload0 C hl 2 rfl dX8_pushed_9 ?_
    obtain ⟨u3, e3, hf⟩ := bx hf
    refine r_callVi (ws' := (mO G am as_ ar ac an ath ah m_am ++ (sO G as_ s_as_ ++ (tO G an t_an ++ (pO G an p_an ++ (pO G ath p_ath ++ (zO G an z_an ++ (zO G ath z_ath ++ (eO G an e_an ++ []))))))))) (As := [.int x2]) (rest := []) C hw hl.1 kX8_noData ml_X8_141 (c_X8_noData l G am as_ ar ac an ath ah _ m_am s_as_ x2 u3 e3) (CutX.take mO_f (CutX.take sO_f CutX.none)) _ (gx_h mO_o) rfl ⟨rfl, rfl⟩ ⟨Nat.le_of_ble_eq_true rfl, Nat.le_of_ble_eq_true rfl⟩ rfl ⟨Nat.zero_le _, Nat.zero_le _⟩ rfl (Nat.le_of_ble_eq_true rfl) dX8_pushed_10 (fun H locs hw => ?_)
    refine lv_if_eq (tgt := 22) C.1 C.2.1 dX8_pushed_13 (by decide) (fun hc => ?_) (fun hc => ?_)
    · replace hf := ifp hf hc
      refine r_aload0 C hl 0 rfl dX8_pushed_22 ?_
      refine r_iload0 C hl 1 rfl dX8_pushed_23 ?_
      refine r_iload0 C hl 2 rfl dX8_pushed_24 ?_
      obtain ⟨u4, e4, hf⟩ := bx hf
      refine r_callVv (ws' := (mO G am as_ ar ac an ath ah m_am ++ (sO G as_ s_as_ ++ (tO G an t_an ++ (pO G an p_an ++ (pO G ath u4.1 ++ (zO G an z_an ++ (zO G ath u4.2 ++ (eO G an e_an ++ []))))))))) (As := [.int x1, .int x2]) (rest := []) C hw hl.1 kX8_thinkOfStoring ml_X8_298 (c_X8_thinkOfStoring l G am as_ ar ac an ath ah _ m_am t_an p_an p_ath z_an z_ath e_an x1 x2 u4 e4) (CutX.take mO_f (CutX.skip (CutX.take tO_f (CutX.take pO_f (CutX.take pO_f (CutX.take zO_f (CutX.take zO_f (CutX.take eO_f CutX.none)))))))) _ (gx_h mO_o) rfl ⟨rfl, rfl⟩ ⟨Nat.le_of_ble_eq_true rfl, Nat.le_of_ble_eq_true rfl⟩ rfl ⟨Nat.zero_le _, Nat.zero_le _⟩ rfl (Nat.le_of_ble_eq_true rfl) dX8_pushed_25 (fun H locs hw => ?_)
      refine r_iload0 C hl 3 rfl dX8_pushed_28 ?_
      refine lv_if_lt (tgt := 43) C.1 C.2.1 dX8_pushed_29 (by decide) (fun hc => ?_) (fun hc => ?_)
      · replace hf := ifp hf hc
        exact hB_43  m_am u4.1 u4.2 hf _ _ hw _ (lv_sub hl [0] rfl)
      · replace hf := ifn hf hc
        refine r_iload0 C hl 3 rfl dX8_pushed_32 ?_
        refine r_aload0 C hl 0 rfl dX8_pushed_33 ?_
        refine r_get C hw _ (gx_h mO_o) 10 fl_X8_44 rfl dX8_pushed_34 ?_
        refine r_get C hw _ (gx_t (gx_t (gx_t (gx_t (gx_h pO_o))))) 14 fl_X8_302 rfl dX8_pushed_37 ?_
        refine lv_icmp_lt (tgt := 49) C.1 C.2.1 dX8_pushed_40 (by decide) (fun hc => ?_) (fun hc => ?_)
        · replace hf := ifp hf hc
          refine r_aload0 C hl 0 rfl dX8_pushed_49 ?_
          refine r_aload0 C hl 0 rfl dX8_pushed_50 ?_
          refine r_get C hw _ (gx_h mO_o) 10 fl_X8_44 rfl dX8_pushed_51 ?_
          refine r_get C hw _ (gx_t (gx_t (gx_t (gx_t (gx_h pO_o))))) 13 fl_X8_305 rfl dX8_pushed_54 ?_
          refine r_iload0 C hl 3 rfl dX8_pushed_57 ?_
          obtain ⟨v6_, e6, hf⟩ := bx hf
          refine r_iald C hw _ (gx_t (gx_t (gx_t (gx_t (gx_h pO_g13))))) e6 dX8_pushed_58 ?_
          obtain ⟨u7, e7, hf⟩ := bx hf
          refine r_callVi (ws' := (mO G am as_ ar ac an ath ah u7.2 ++ (sO G as_ s_as_ ++ (tO G an t_an ++ (pO G an p_an ++ (pO G ath u4.1 ++ (zO G an z_an ++ (zO G ath u4.2 ++ (eO G an e_an ++ []))))))))) (As := [.int v6_]) (rest := []) C hw hl.1 kX8_answer ml_X8_99 (c_X8_answer l G am as_ ar ac an ath ah _ m_am v6_ u7 e7) (CutX.take mO_f CutX.none) _ (gx_h mO_o) rfl ⟨rfl, rfl⟩ ⟨Nat.le_of_ble_eq_true rfl, Nat.le_of_ble_eq_true rfl⟩ rfl ⟨Nat.zero_le _, Nat.zero_le _⟩ rfl (Nat.le_of_ble_eq_true rfl) dX8_pushed_59 (fun H locs hw => ?_)
          exact fin_i C hw (Option.some.inj hf) (fun o => o.1) (fun o => (mO G am as_ ar ac an ath ah o.2.1 ++ (sO G as_ s_as_ ++ (tO G an t_an ++ (pO G an p_an ++ (pO G ath o.2.2.1 ++ (zO G an z_an ++ (zO G ath o.2.2.2 ++ (eO G an e_an ++ []))))))))) rfl rfl dX8_pushed_62
        · replace hf := ifn hf hc
          exact hB_43  m_am u4.1 u4.2 hf _ _ hw _ (lv_sub hl [0] rfl)
    · replace hf := ifn hf hc
      exact hB_16  m_am p_ath z_ath hf _ _ hw _ (lv_sub hl [0] rfl)
set_option maxHeartbeats 4000000 in
set_option maxRecDepth 100000 in
theorem c_X8_op (l : Launch) (G : GG) (am : Nat → Nat) (as_ : Nat → Nat) (ar : Nat → Nat) (ac : Nat → Nat) (an : Nat → Nat) (ath : Nat → Nat) (ah : Nat → Nat) (sz : Nat) (m_am : Pic) (s_as_ : Pic) (x1 : Int32) (x2 : Int32) (out : Int32 × Pic) (hf : f_X8_op m_am s_as_ x1 x2 = some out) : Met l yX8_op (.code yX8_op cX8_op 3 (some .int) :: BT) ({ frames := 1, cells := 0, slots := 0, locals := 21 }) (va_Pc [.ref (am 99), .int x1, .int x2] (PreW G sz (mO G am as_ ar ac an ath ah m_am ++ (sO G as_ s_as_ ++ [])))) (Ans G out.1 (va_A (mO G am as_ ar ac an ath ah m_am ++ (sO G as_ s_as_ ++ [])) sz) (mO G am as_ ar ac an ath ah out.2 ++ (sO G as_ s_as_ ++ []))) 0 0 (va_A (mO G am as_ ar ac an ath ah m_am ++ (sO G as_ s_as_ ++ [])) sz) := by
  refine Met.into (by decide) (Nat.le_of_ble_eq_true rfl) ?_
  intro p e s m below meth c C hsz ls hl hw
  have hl : lv_has ls 3 [(0, .ref (am 99)), (1, .int x1), (2, .int x2)] := hl
  clear hsz
  generalize va_A (mO G am as_ ar ac an ath ah m_am ++ (sO G as_ s_as_ ++ [])) sz = A at hw ⊢
  unfold f_X8_op at hf
  refine r_aload0 C hl 0 rfl dX8_op_0 ?_
  refine r_iload0 C hl 1 rfl dX8_op_1 ?_
  obtain ⟨u1, e1, hf⟩ := bx hf
  refine r_callVi (ws' := (mO G am as_ ar ac an ath ah m_am ++ (sO G as_ s_as_ ++ []))) (As := [.int x1]) (rest := []) C hw hl.1 kX8_noOp ml_X8_312 (c_X8_noOp l G am as_ ar ac an ath ah _ m_am s_as_ x1 u1 e1) (CutX.take mO_f (CutX.take sO_f CutX.none)) _ (gx_h mO_o) rfl ⟨rfl, rfl⟩ ⟨Nat.le_of_ble_eq_true rfl, Nat.le_of_ble_eq_true rfl⟩ rfl ⟨Nat.zero_le _, Nat.zero_le _⟩ rfl (Nat.le_of_ble_eq_true rfl) dX8_op_2 (fun H locs hw => ?_)
  refine lv_if_eq (tgt := 14) C.1 C.2.1 dX8_op_5 (by decide) (fun hc => ?_) (fun hc => ?_)
  · replace hf := ifp hf hc
    refine r_iload0 C hl 2 rfl dX8_op_14 ?_
    rcases Decidable.em (x2 = 0) with hc | h0_
    · replace hf := ifp hf hc
      refine lv_tableIn (tgt := 40) C.1 C.2.1 dX8_op_15 (by rw [hc]; decide) (by rw [hc]; decide) (by rw [hc]; rfl) (by decide) ?_
      refine r_aload0 C hl 0 rfl dX8_op_40 ?_
      refine r_aload0 C hl 0 rfl dX8_op_41 ?_
      refine r_get C hw _ (gx_h mO_o) 6 fl_X8_16 rfl dX8_op_42 ?_
      refine r_get C hw _ (gx_t (gx_h sO_o)) 6 fl_X8_315 rfl dX8_op_45 ?_
      refine r_iload0 C hl 1 rfl dX8_op_48 ?_
      obtain ⟨v7_, e7, hf⟩ := bx hf
      refine r_iald C hw _ (gx_t (gx_h sO_g6)) e7 dX8_op_49 ?_
      obtain ⟨u8, e8, hf⟩ := bx hf
      refine r_callVi (ws' := (mO G am as_ ar ac an ath ah u8.2 ++ (sO G as_ s_as_ ++ []))) (As := [.int v7_]) (rest := []) C hw hl.1 kX8_answer ml_X8_99 (c_X8_answer l G am as_ ar ac an ath ah _ m_am v7_ u8 e8) (CutX.take mO_f CutX.none) _ (gx_h mO_o) rfl ⟨rfl, rfl⟩ ⟨Nat.le_of_ble_eq_true rfl, Nat.le_of_ble_eq_true rfl⟩ rfl ⟨Nat.zero_le _, Nat.zero_le _⟩ rfl (Nat.le_of_ble_eq_true rfl) dX8_op_50 (fun H locs hw => ?_)
      exact fin_i C hw (Option.some.inj hf) (fun o => o.1) (fun o => (mO G am as_ ar ac an ath ah o.2 ++ (sO G as_ s_as_ ++ []))) rfl rfl dX8_op_53
    replace hf := ifn hf h0_
    rcases Decidable.em (x2 = 1) with hc | h1_
    · replace hf := ifp hf hc
      refine lv_tableIn (tgt := 54) C.1 C.2.1 dX8_op_15 (by rw [hc]; decide) (by rw [hc]; decide) (by rw [hc]; rfl) (by decide) ?_
      refine r_aload0 C hl 0 rfl dX8_op_54 ?_
      refine r_aload0 C hl 0 rfl dX8_op_55 ?_
      refine r_get C hw _ (gx_h mO_o) 6 fl_X8_16 rfl dX8_op_56 ?_
      refine r_get C hw _ (gx_t (gx_h sO_o)) 7 fl_X8_318 rfl dX8_op_59 ?_
      refine r_iload0 C hl 1 rfl dX8_op_62 ?_
      obtain ⟨v5_, e5, hf⟩ := bx hf
      refine r_iald C hw _ (gx_t (gx_h sO_g7)) e5 dX8_op_63 ?_
      obtain ⟨u6, e6, hf⟩ := bx hf
      refine r_callVi (ws' := (mO G am as_ ar ac an ath ah u6.2 ++ (sO G as_ s_as_ ++ []))) (As := [.int v5_]) (rest := []) C hw hl.1 kX8_answer ml_X8_99 (c_X8_answer l G am as_ ar ac an ath ah _ m_am v5_ u6 e6) (CutX.take mO_f CutX.none) _ (gx_h mO_o) rfl ⟨rfl, rfl⟩ ⟨Nat.le_of_ble_eq_true rfl, Nat.le_of_ble_eq_true rfl⟩ rfl ⟨Nat.zero_le _, Nat.zero_le _⟩ rfl (Nat.le_of_ble_eq_true rfl) dX8_op_64 (fun H locs hw => ?_)
      exact fin_i C hw (Option.some.inj hf) (fun o => o.1) (fun o => (mO G am as_ ar ac an ath ah o.2 ++ (sO G as_ s_as_ ++ []))) rfl rfl dX8_op_67
    replace hf := ifn hf h1_
    rcases Decidable.em (x2 = 2) with hc | h2_
    · replace hf := ifp hf hc
      refine lv_tableIn (tgt := 68) C.1 C.2.1 dX8_op_15 (by rw [hc]; decide) (by rw [hc]; decide) (by rw [hc]; rfl) (by decide) ?_
      refine r_aload0 C hl 0 rfl dX8_op_68 ?_
      refine r_aload0 C hl 0 rfl dX8_op_69 ?_
      refine r_get C hw _ (gx_h mO_o) 6 fl_X8_16 rfl dX8_op_70 ?_
      refine r_get C hw _ (gx_t (gx_h sO_o)) 8 fl_X8_321 rfl dX8_op_73 ?_
      refine r_iload0 C hl 1 rfl dX8_op_76 ?_
      obtain ⟨v3_, e3, hf⟩ := bx hf
      refine r_iald C hw _ (gx_t (gx_h sO_g8)) e3 dX8_op_77 ?_
      obtain ⟨u4, e4, hf⟩ := bx hf
      refine r_callVi (ws' := (mO G am as_ ar ac an ath ah u4.2 ++ (sO G as_ s_as_ ++ []))) (As := [.int v3_]) (rest := []) C hw hl.1 kX8_answer ml_X8_99 (c_X8_answer l G am as_ ar ac an ath ah _ m_am v3_ u4 e4) (CutX.take mO_f CutX.none) _ (gx_h mO_o) rfl ⟨rfl, rfl⟩ ⟨Nat.le_of_ble_eq_true rfl, Nat.le_of_ble_eq_true rfl⟩ rfl ⟨Nat.zero_le _, Nat.zero_le _⟩ rfl (Nat.le_of_ble_eq_true rfl) dX8_op_78 (fun H locs hw => ?_)
      exact fin_i C hw (Option.some.inj hf) (fun o => o.1) (fun o => (mO G am as_ ar ac an ath ah o.2 ++ (sO G as_ s_as_ ++ []))) rfl rfl dX8_op_81
    replace hf := ifn hf h2_
    refine lv_tableOut (tgt := 82) C.1 C.2.1 dX8_op_15 (sw_out3 h0_ h1_ h2_) (by decide) ?_
    refine r_aload0 C hl 0 rfl dX8_op_82 ?_
    refine lv_iconst (v := 1) C.1 C.2.1 dX8_op_83 (by decide) ?_
    obtain ⟨u2, e2, hf⟩ := bx hf
    refine r_callVi (ws' := (mO G am as_ ar ac an ath ah u2.2 ++ (sO G as_ s_as_ ++ []))) (As := [.int 1]) (rest := []) C hw hl.1 kX8_refuse ml_X8_63 (c_X8_refuse l G am as_ ar ac an ath ah _ m_am 1 u2 e2) (CutX.take mO_f CutX.none) _ (gx_h mO_o) rfl ⟨rfl, rfl⟩ ⟨Nat.le_of_ble_eq_true rfl, Nat.le_of_ble_eq_true rfl⟩ rfl ⟨Nat.zero_le _, Nat.zero_le _⟩ rfl (Nat.le_of_ble_eq_true rfl) dX8_op_84 (fun H locs hw => ?_)
    exact fin_i C hw (Option.some.inj hf) (fun o => o.1) (fun o => (mO G am as_ ar ac an ath ah o.2 ++ (sO G as_ s_as_ ++ []))) rfl rfl dX8_op_87
  · replace hf := ifn hf hc
    refine r_aload0 C hl 0 rfl dX8_op_8 ?_
    refine lv_iconst (v := 1) C.1 C.2.1 dX8_op_9 (by decide) ?_
    obtain ⟨u9, e9, hf⟩ := bx hf
    refine r_callVi (ws' := (mO G am as_ ar ac an ath ah u9.2 ++ (sO G as_ s_as_ ++ []))) (As := [.int 1]) (rest := []) C hw hl.1 kX8_refuse ml_X8_63 (c_X8_refuse l G am as_ ar ac an ath ah _ m_am 1 u9 e9) (CutX.take mO_f CutX.none) _ (gx_h mO_o) rfl ⟨rfl, rfl⟩ ⟨Nat.le_of_ble_eq_true rfl, Nat.le_of_ble_eq_true rfl⟩ rfl ⟨Nat.zero_le _, Nat.zero_le _⟩ rfl (Nat.le_of_ble_eq_true rfl) dX8_op_10 (fun H locs hw => ?_)
    exact fin_i C hw (Option.some.inj hf) (fun o => o.1) (fun o => (mO G am as_ ar ac an ath ah o.2 ++ (sO G as_ s_as_ ++ []))) rfl rfl dX8_op_13
set_option maxHeartbeats 4000000 in
set_option maxRecDepth 100000 in
theorem c_X8_store (l : Launch) (G : GG) (am : Nat → Nat) (as_ : Nat → Nat) (ar : Nat → Nat) (ac : Nat → Nat) (an : Nat → Nat) (ath : Nat → Nat) (ah : Nat → Nat) (ads : Nat → Nat → Nat) (sz : Nat) (m_am : Pic) (s_as_ : Pic) (h_ah : Pic) (t_an : Pic) (p_an : Pic) (z_an : Pic) (e_an : Pic) (rs : Nat → Option Q4) (x1 : Int32) (x2 : Int32) (out : Int32 × Pic × Pic × Pic × Pic × (Nat → Option Q4)) (hf : f_X8_store m_am s_as_ h_ah t_an p_an z_an e_an rs x1 x2 = some out) : Met l yX8_store (.code yX8_store cX8_store 3 (some .int) :: BT) ({ frames := 5, cells := 19, slots := 1368, locals := 117 }) (va_Pc [.ref (am 99), .int x1, .int x2] (PreN G sz (mO G am as_ ar ac an ath ah m_am ++ (sO G as_ s_as_ ++ (hO G ah (rgA ads rs) h_ah ++ (tO G an t_an ++ (pO G an p_an ++ (zO G an z_an ++ (eO G an e_an ++ (kO G ads rs ++ [])))))))))) (AnsK G out.1 (va_A (mO G am as_ ar ac an ath ah m_am ++ (sO G as_ s_as_ ++ (hO G ah (rgA ads rs) h_ah ++ (tO G an t_an ++ (pO G an p_an ++ (zO G an z_an ++ (eO G an e_an ++ (kO G ads rs ++ [])))))))) sz) (fun ads => (mO G am as_ ar ac an ath ah out.2.1 ++ (sO G as_ s_as_ ++ (hO G ah (rgA ads out.2.2.2.2.2) out.2.2.1 ++ (tO G an t_an ++ (pO G an out.2.2.2.1 ++ (zO G an out.2.2.2.2.1 ++ (eO G an e_an ++ (kO G ads out.2.2.2.2.2 ++ [])))))))))) 19 1368 (va_A (mO G am as_ ar ac an ath ah m_am ++ (sO G as_ s_as_ ++ (hO G ah (rgA ads rs) h_ah ++ (tO G an t_an ++ (pO G an p_an ++ (zO G an z_an ++ (eO G an e_an ++ (kO G ads rs ++ [])))))))) sz) := by
  refine Met.intoN (by decide) (Nat.le_of_ble_eq_true rfl) ?_
  intro p e s m below meth c C hsz hq ls hl hw
  have hl : lv_has ls 3 [(0, .ref (am 99)), (1, .int x1), (2, .int x2)] := hl
  clear hsz
  generalize va_A (mO G am as_ ar ac an ath ah m_am ++ (sO G as_ s_as_ ++ (hO G ah (rgA ads rs) h_ah ++ (tO G an t_an ++ (pO G an p_an ++ (zO G an z_an ++ (eO G an e_an ++ (kO G ads rs ++ [])))))))) sz = A at hw ⊢
  have hB_16 : ∀ (m_am : Pic) (h_ah : Pic) (p_an : Pic) (z_an : Pic) (rs : Nat → Option Q4), b_X8_store_16 s_as_ t_an e_an x1 x2  m_am h_ah p_an z_an rs = some out → ∀ (ads : Nat → Nat → Nat) (H : Heap) (locs : List Loc), Wd G A s H locs (mO G am as_ ar ac an ath ah m_am ++ (sO G as_ s_as_ ++ (hO G ah (rgA ads rs) h_ah ++ (tO G an t_an ++ (pO G an p_an ++ (zO G an z_an ++ (eO G an e_an ++ (kO G ads rs ++ [])))))))) → ∀ ls : Array Slot, lv_has ls 3 [(0, .ref (am 99))] → W p l e ({ frames := 5, cells := 19, slots := 1368, locals := 117 }) s m [.ref (am 99), .int x1, .int x2].toArray below meth c H locs 0 0 (MQ below (AnsK G out.1 A (fun ads => (mO G am as_ ar ac an ath ah out.2.1 ++ (sO G as_ s_as_ ++ (hO G ah (rgA ads out.2.2.2.2.2) out.2.2.1 ++ (tO G an t_an ++ (pO G an out.2.2.2.1 ++ (zO G an out.2.2.2.2.1 ++ (eO G an e_an ++ (kO G ads out.2.2.2.2.2 ++ [])))))))))) [.ref (am 99), .int x1, .int x2].toArray s 19 1368 A) (F0 m 16 ls []) := by
    intro m_am h_ah p_an z_an rs hf ads H locs hw ls hl
    unfold b_X8_store_16 at hf
    refine r_aload0 C hl 0 rfl dX8_store_16 ?_
    refine lv_iconst (v := 1) C.1 C.2.1 dX8_store_17 (by decide) ?_
    obtain ⟨u2, e2, hf⟩ := bx hf
    refine r_callVi (ws' := (mO G am as_ ar ac an ath ah u2.2 ++ (sO G as_ s_as_ ++ (hO G ah (rgA ads rs) h_ah ++ (tO G an t_an ++ (pO G an p_an ++ (zO G an z_an ++ (eO G an e_an ++ (kO G ads rs ++ []))))))))) (As := [.int 1]) (rest := []) C hw hl.1 kX8_refuse ml_X8_63 (c_X8_refuse l G am as_ ar ac an ath ah _ m_am 1 u2 e2) (CutX.take mO_f CutX.none) _ (gx_h mO_o) rfl ⟨rfl, rfl⟩ ⟨Nat.le_of_ble_eq_true rfl, Nat.le_of_ble_eq_true rfl⟩ rfl ⟨Nat.le_of_ble_eq_true rfl, Nat.le_of_ble_eq_true rfl⟩ rfl (Nat.le_of_ble_eq_true rfl) dX8_store_18 (fun H locs hw => ?_)
    refine W.widen (k := 19) (n := 1368) (Nat.le_of_ble_eq_true rfl) (Nat.le_of_ble_eq_true rfl) ?_
    exact fin_iK C hw (Option.some.inj hf) (fun o => o.1) (fun o ads => (mO G am as_ ar ac an ath ah o.2.1 ++ (sO G as_ s_as_ ++ (hO G ah (rgA ads o.2.2.2.2.2) o.2.2.1 ++ (tO G an t_an ++ (pO G an o.2.2.2.1 ++ (zO G an o.2.2.2.2.1 ++ (eO G an e_an ++ (kO G ads o.2.2.2.2.2 ++ []))))))))) ads rfl rfl dX8_store_21
  unfold f_X8_store at hf
  refine r_aload0 C hl 0 rfl dX8_store_0 ?_
  refine r_iload0 C hl 1 rfl dX8_store_1 ?_
  obtain ⟨u1, e1, hf⟩ := bx hf
  refine r_callVi (ws' := (mO G am as_ ar ac an ath ah m_am ++ (sO G as_ s_as_ ++ (hO G ah (rgA ads rs) h_ah ++ (tO G an t_an ++ (pO G an p_an ++ (zO G an z_an ++ (eO G an e_an ++ (kO G ads rs ++ []))))))))) (As := [.int x1]) (rest := []) C hw hl.1 kX8_noPage ml_X8_247 (c_X8_noPage l G am as_ ar ac an ath ah _ m_am x1 u1 e1) (CutX.take mO_f CutX.none) _ (gx_h mO_o) rfl ⟨rfl, rfl⟩ ⟨Nat.le_of_ble_eq_true rfl, Nat.le_of_ble_eq_true rfl⟩ rfl ⟨Nat.le_of_ble_eq_true rfl, Nat.le_of_ble_eq_true rfl⟩ rfl (Nat.le_of_ble_eq_true rfl) dX8_store_2 (fun H locs hw => ?_)
  refine lv_if_ne (tgt := 16) C.1 C.2.1 dX8_store_5 (by decide) (fun hc => ?_) (fun hc => ?_)
  · replace hf := ifn hf hc
    exact hB_16  m_am h_ah p_an z_an rs hf _ _ _ hw _ (lv_sub hl [0] rfl)
  · replace hf := ifp hf hc
    refine r_aload0 C hl 0 rfl dX8_store_8 ?_
    refine r_iload0 C hl 2 rfl dX8_store_9 ?_
    obtain ⟨u3, e3, hf⟩ := bx hf
    refine r_callVi (ws' := (mO G am as_ ar ac an ath ah m_am ++ (sO G as_ s_as_ ++ (hO G ah (rgA ads rs) h_ah ++ (tO G an t_an ++ (pO G an p_an ++ (zO G an z_an ++ (eO G an e_an ++ (kO G ads rs ++ []))))))))) (As := [.int x2]) (rest := []) C hw hl.1 kX8_noData ml_X8_141 (c_X8_noData l G am as_ ar ac an ath ah _ m_am s_as_ x2 u3 e3) (CutX.take mO_f (CutX.take sO_f CutX.none)) _ (gx_h mO_o) rfl ⟨rfl, rfl⟩ ⟨Nat.le_of_ble_eq_true rfl, Nat.le_of_ble_eq_true rfl⟩ rfl ⟨Nat.le_of_ble_eq_true rfl, Nat.le_of_ble_eq_true rfl⟩ rfl (Nat.le_of_ble_eq_true rfl) dX8_store_10 (fun H locs hw => ?_)
    refine lv_if_eq (tgt := 22) C.1 C.2.1 dX8_store_13 (by decide) (fun hc => ?_) (fun hc => ?_)
    · replace hf := ifp hf hc
      refine r_aload0 C hl 0 rfl dX8_store_22 ?_
      refine r_get C hw _ (gx_h mO_o) 11 fl_X8_51 rfl dX8_store_23 ?_
      refine r_aload0 C hl 0 rfl dX8_store_26 ?_
      refine r_get C hw _ (gx_h mO_o) 9 fl_X8_37 rfl dX8_store_27 ?_
      obtain ⟨u4, e4, hf⟩ := bx hf
      refine r_keep (wr := mO G am as_ ar ac an ath ah m_am ++ (sO G as_ s_as_ ++ ([]))) C hq (by simpa only [kW, List.append_assoc, List.nil_append, List.append_nil] using hw) hl.1 ml_X8_324 (c_X2_keep l G ah an ads _ h_ah rs t_an p_an z_an e_an u4 e4) ⟨Nat.le_of_ble_eq_true rfl, Nat.le_of_ble_eq_true rfl⟩ ⟨Nat.le_of_ble_eq_true rfl, Nat.le_of_ble_eq_true rfl⟩ (Nat.le_of_ble_eq_true rfl) dX8_store_30 (fun ads4 H locs hw => ?_)
      have hw : Wd G A s H locs (mO G am as_ ar ac an ath ah m_am ++ (sO G as_ s_as_ ++ (hO G ah (rgA ads4 u4.2) u4.1 ++ (tO G an t_an ++ (pO G an p_an ++ (zO G an z_an ++ (eO G an e_an ++ (kO G ads4 u4.2 ++ [])))))))) := by simpa only [kW, List.append_assoc, List.nil_append, List.append_nil] using hw
      refine r_aload0 C hl 0 rfl dX8_store_33 ?_
      refine r_get C hw _ (gx_h mO_o) 9 fl_X8_37 rfl dX8_store_34 ?_
      refine r_get C hw _ (gx_t (gx_t (gx_t (gx_h tO_o)))) 2 fl_X8_105 rfl dX8_store_37 ?_
      refine r_iload0 C hl 1 rfl dX8_store_40 ?_
      refine r_aload0 C hl 0 rfl dX8_store_41 ?_
      refine r_get C hw _ (gx_h mO_o) 9 fl_X8_37 rfl dX8_store_42 ?_
      refine r_get C hw _ (gx_t (gx_t (gx_t (gx_h tO_o)))) 0 fl_X8_148 rfl dX8_store_45 ?_
      refine r_iload0 C hl 2 rfl dX8_store_48 ?_
      refine lv_bipush (v := 16) C.1 C.2.1 dX8_store_49 (by decide) ?_
      refine lv_imul C.1 C.2.1 dX8_store_51 ?_
      refine r_aload0 C hl 0 rfl dX8_store_52 ?_
      refine r_get C hw _ (gx_h mO_o) 9 fl_X8_37 rfl dX8_store_53 ?_
      refine r_get C hw _ (gx_t (gx_t (gx_t (gx_h tO_o)))) 1 fl_X8_151 rfl dX8_store_56 ?_
      refine r_iload0 C hl 2 rfl dX8_store_59 ?_
      obtain ⟨v5_, e5, hf⟩ := bx hf
      refine r_iald C hw _ (gx_t (gx_t (gx_t (gx_h tO_g1)))) e5 dX8_store_60 ?_
      obtain ⟨u6, e6, hf⟩ := bx hf
      refine r_callVv (ws' := (mO G am as_ ar ac an ath ah m_am ++ (sO G as_ s_as_ ++ (hO G ah (rgA ads4 u4.2) u4.1 ++ (tO G an t_an ++ (pO G an u6.1 ++ (zO G an u6.2 ++ (eO G an e_an ++ (kO G ads4 u4.2 ++ []))))))))) (As := [.int x1, .ref (an 200), .int (x2 * 16), .int v5_]) (rest := []) C hw hl.1 kX3_storePage ml_X8_328 (c_X3_storePage l G an an _ p_an z_an e_an x1 (x2 * 16) v5_ u6 e6) (CutX.skip (CutX.skip (CutX.skip (CutX.skip (CutX.take pO_f (CutX.take zO_f (CutX.take eO_f CutX.none))))))) _ (gx_t (gx_t (gx_t (gx_t (gx_h pO_o))))) rfl ⟨rfl, rfl⟩ ⟨Nat.le_of_ble_eq_true rfl, Nat.le_of_ble_eq_true rfl⟩ rfl ⟨Nat.le_of_ble_eq_true rfl, Nat.le_of_ble_eq_true rfl⟩ rfl (Nat.le_of_ble_eq_true rfl) dX8_store_61 (fun H locs hw => ?_)
      refine r_aload0 C hl 0 rfl dX8_store_64 ?_
      refine r_aload0 C hl 0 rfl dX8_store_65 ?_
      refine r_get C hw _ (gx_h mO_o) 9 fl_X8_37 rfl dX8_store_66 ?_
      refine r_get C hw _ (gx_t (gx_t (gx_t (gx_h tO_o)))) 2 fl_X8_105 rfl dX8_store_69 ?_
      refine r_get C hw _ (gx_t (gx_t (gx_t (gx_t (gx_h pO_o))))) 4 fl_X8_250 rfl dX8_store_72 ?_
      refine r_iload0 C hl 1 rfl dX8_store_75 ?_
      obtain ⟨v7_, e7, hf⟩ := bx hf
      refine r_iald C hw _ (gx_t (gx_t (gx_t (gx_t (gx_h pO_g4))))) e7 dX8_store_76 ?_
      obtain ⟨u8, e8, hf⟩ := bx hf
      refine r_callVi (ws' := (mO G am as_ ar ac an ath ah u8.2 ++ (sO G as_ s_as_ ++ (hO G ah (rgA ads4 u4.2) u4.1 ++ (tO G an t_an ++ (pO G an u6.1 ++ (zO G an u6.2 ++ (eO G an e_an ++ (kO G ads4 u4.2 ++ []))))))))) (As := [.int v7_]) (rest := []) C hw hl.1 kX8_answer ml_X8_99 (c_X8_answer l G am as_ ar ac an ath ah _ m_am v7_ u8 e8) (CutX.take mO_f CutX.none) _ (gx_h mO_o) rfl ⟨rfl, rfl⟩ ⟨Nat.le_of_ble_eq_true rfl, Nat.le_of_ble_eq_true rfl⟩ rfl ⟨Nat.le_of_ble_eq_true rfl, Nat.le_of_ble_eq_true rfl⟩ rfl (Nat.le_of_ble_eq_true rfl) dX8_store_77 (fun H locs hw => ?_)
      refine W.widen (k := 19) (n := 1368) (Nat.le_of_ble_eq_true rfl) (Nat.le_of_ble_eq_true rfl) ?_
      exact fin_iK C hw (Option.some.inj hf) (fun o => o.1) (fun o ads => (mO G am as_ ar ac an ath ah o.2.1 ++ (sO G as_ s_as_ ++ (hO G ah (rgA ads o.2.2.2.2.2) o.2.2.1 ++ (tO G an t_an ++ (pO G an o.2.2.2.1 ++ (zO G an o.2.2.2.2.1 ++ (eO G an e_an ++ (kO G ads o.2.2.2.2.2 ++ []))))))))) ads4 rfl rfl dX8_store_80
    · replace hf := ifn hf hc
      exact hB_16  m_am h_ah p_an z_an rs hf _ _ _ hw _ (lv_sub hl [0] rfl)
set_option maxHeartbeats 4000000 in
set_option maxRecDepth 100000 in
theorem c_X8_load (l : Launch) (G : GG) (am : Nat → Nat) (as_ : Nat → Nat) (ar : Nat → Nat) (ac : Nat → Nat) (an : Nat → Nat) (ath : Nat → Nat) (ah : Nat → Nat) (ads : Nat → Nat → Nat) (sz : Nat) (m_am : Pic) (h_ah : Pic) (t_an : Pic) (p_an : Pic) (z_an : Pic) (e_an : Pic) (rs : Nat → Option Q4) (x1 : Int32) (out : Int32 × Pic × Pic × Pic × (Nat → Option Q4)) (hf : f_X8_load m_am h_ah t_an p_an z_an e_an rs x1 = some out) : Met l yX8_load (.code yX8_load cX8_load 2 (some .int) :: BT) ({ frames := 5, cells := 19, slots := 1368, locals := 110 }) (va_Pc [.ref (am 99), .int x1] (PreN G sz (mO G am as_ ar ac an ath ah m_am ++ (hO G ah (rgA ads rs) h_ah ++ (tO G an t_an ++ (pO G an p_an ++ (zO G an z_an ++ (eO G an e_an ++ (kO G ads rs ++ []))))))))) (AnsK G out.1 (va_A (mO G am as_ ar ac an ath ah m_am ++ (hO G ah (rgA ads rs) h_ah ++ (tO G an t_an ++ (pO G an p_an ++ (zO G an z_an ++ (eO G an e_an ++ (kO G ads rs ++ []))))))) sz) (fun ads => (mO G am as_ ar ac an ath ah out.2.1 ++ (hO G ah (rgA ads out.2.2.2.2) out.2.2.1 ++ (tO G an t_an ++ (pO G an out.2.2.2.1 ++ (zO G an z_an ++ (eO G an e_an ++ (kO G ads out.2.2.2.2 ++ []))))))))) 19 1368 (va_A (mO G am as_ ar ac an ath ah m_am ++ (hO G ah (rgA ads rs) h_ah ++ (tO G an t_an ++ (pO G an p_an ++ (zO G an z_an ++ (eO G an e_an ++ (kO G ads rs ++ []))))))) sz) := by
  refine Met.intoN (by decide) (Nat.le_of_ble_eq_true rfl) ?_
  intro p e s m below meth c C hsz hq ls hl hw
  have hl : lv_has ls 2 [(0, .ref (am 99)), (1, .int x1)] := hl
  clear hsz
  generalize va_A (mO G am as_ ar ac an ath ah m_am ++ (hO G ah (rgA ads rs) h_ah ++ (tO G an t_an ++ (pO G an p_an ++ (zO G an z_an ++ (eO G an e_an ++ (kO G ads rs ++ []))))))) sz = A at hw ⊢
  unfold f_X8_load at hf
  refine r_aload0 C hl 0 rfl dX8_load_0 ?_
  refine r_iload0 C hl 1 rfl dX8_load_1 ?_
  obtain ⟨u1, e1, hf⟩ := bx hf
  refine r_callVi (ws' := (mO G am as_ ar ac an ath ah m_am ++ (hO G ah (rgA ads rs) h_ah ++ (tO G an t_an ++ (pO G an p_an ++ (zO G an z_an ++ (eO G an e_an ++ (kO G ads rs ++ [])))))))) (As := [.int x1]) (rest := []) C hw hl.1 kX8_noPage ml_X8_247 (c_X8_noPage l G am as_ ar ac an ath ah _ m_am x1 u1 e1) (CutX.take mO_f CutX.none) _ (gx_h mO_o) rfl ⟨rfl, rfl⟩ ⟨Nat.le_of_ble_eq_true rfl, Nat.le_of_ble_eq_true rfl⟩ rfl ⟨Nat.le_of_ble_eq_true rfl, Nat.le_of_ble_eq_true rfl⟩ rfl (Nat.le_of_ble_eq_true rfl) dX8_load_2 (fun H locs hw => ?_)
  refine lv_if_eq (tgt := 14) C.1 C.2.1 dX8_load_5 (by decide) (fun hc => ?_) (fun hc => ?_)
  · replace hf := ifp hf hc
    refine r_aload0 C hl 0 rfl dX8_load_14 ?_
    refine r_get C hw _ (gx_h mO_o) 9 fl_X8_37 rfl dX8_load_15 ?_
    refine r_get C hw _ (gx_t (gx_t (gx_h tO_o))) 2 fl_X8_105 rfl dX8_load_18 ?_
    refine r_get C hw _ (gx_t (gx_t (gx_t (gx_h pO_o)))) 4 fl_X8_250 rfl dX8_load_21 ?_
    refine r_iload0 C hl 1 rfl dX8_load_24 ?_
    obtain ⟨v2_, e2, hf⟩ := bx hf
    refine r_iald C hw _ (gx_t (gx_t (gx_t (gx_h pO_g4)))) e2 dX8_load_25 ?_
    refine lv_if_ne (tgt := 35) C.1 C.2.1 dX8_load_26 (by decide) (fun hc => ?_) (fun hc => ?_)
    · replace hf := ifn hf hc
      refine r_aload0 C hl 0 rfl dX8_load_35 ?_
      refine r_get C hw _ (gx_h mO_o) 11 fl_X8_51 rfl dX8_load_36 ?_
      refine r_aload0 C hl 0 rfl dX8_load_39 ?_
      refine r_get C hw _ (gx_h mO_o) 9 fl_X8_37 rfl dX8_load_40 ?_
      obtain ⟨u3, e3, hf⟩ := bx hf
      refine r_keep (wr := mO G am as_ ar ac an ath ah m_am ++ ([])) C hq (by simpa only [kW, List.append_assoc, List.nil_append, List.append_nil] using hw) hl.1 ml_X8_324 (c_X2_keep l G ah an ads _ h_ah rs t_an p_an z_an e_an u3 e3) ⟨Nat.le_of_ble_eq_true rfl, Nat.le_of_ble_eq_true rfl⟩ ⟨Nat.le_of_ble_eq_true rfl, Nat.le_of_ble_eq_true rfl⟩ (Nat.le_of_ble_eq_true rfl) dX8_load_43 (fun ads3 H locs hw => ?_)
      have hw : Wd G A s H locs (mO G am as_ ar ac an ath ah m_am ++ (hO G ah (rgA ads3 u3.2) u3.1 ++ (tO G an t_an ++ (pO G an p_an ++ (zO G an z_an ++ (eO G an e_an ++ (kO G ads3 u3.2 ++ []))))))) := by simpa only [kW, List.append_assoc, List.nil_append, List.append_nil] using hw
      refine r_aload0 C hl 0 rfl dX8_load_46 ?_
      refine r_get C hw _ (gx_h mO_o) 9 fl_X8_37 rfl dX8_load_47 ?_
      refine r_get C hw _ (gx_t (gx_t (gx_h tO_o))) 2 fl_X8_105 rfl dX8_load_50 ?_
      refine r_iload0 C hl 1 rfl dX8_load_53 ?_
      obtain ⟨u4, e4, hf⟩ := bx hf
      refine r_callVv (ws' := (mO G am as_ ar ac an ath ah m_am ++ (hO G ah (rgA ads3 u3.2) u3.1 ++ (tO G an t_an ++ (pO G an u4 ++ (zO G an z_an ++ (eO G an e_an ++ (kO G ads3 u3.2 ++ [])))))))) (As := [.int x1]) (rest := []) C hw hl.1 kX3_loadPage ml_X8_332 (c_X3_loadPage l G an _ p_an x1 u4 e4) (CutX.skip (CutX.skip (CutX.skip (CutX.take pO_f CutX.none)))) _ (gx_t (gx_t (gx_t (gx_h pO_o)))) rfl ⟨rfl, rfl⟩ ⟨Nat.le_of_ble_eq_true rfl, Nat.le_of_ble_eq_true rfl⟩ rfl ⟨Nat.le_of_ble_eq_true rfl, Nat.le_of_ble_eq_true rfl⟩ rfl (Nat.le_of_ble_eq_true rfl) dX8_load_54 (fun H locs hw => ?_)
      refine r_aload0 C hl 0 rfl dX8_load_57 ?_
      refine r_aload0 C hl 0 rfl dX8_load_58 ?_
      refine r_get C hw _ (gx_h mO_o) 9 fl_X8_37 rfl dX8_load_59 ?_
      refine r_get C hw _ (gx_t (gx_t (gx_h tO_o))) 2 fl_X8_105 rfl dX8_load_62 ?_
      refine r_get C hw _ (gx_t (gx_t (gx_t (gx_h pO_o)))) 4 fl_X8_250 rfl dX8_load_65 ?_
      refine r_iload0 C hl 1 rfl dX8_load_68 ?_
      obtain ⟨v5_, e5, hf⟩ := bx hf
      refine r_iald C hw _ (gx_t (gx_t (gx_t (gx_h pO_g4)))) e5 dX8_load_69 ?_
      obtain ⟨u6, e6, hf⟩ := bx hf
      refine r_callVi (ws' := (mO G am as_ ar ac an ath ah u6.2 ++ (hO G ah (rgA ads3 u3.2) u3.1 ++ (tO G an t_an ++ (pO G an u4 ++ (zO G an z_an ++ (eO G an e_an ++ (kO G ads3 u3.2 ++ [])))))))) (As := [.int v5_]) (rest := []) C hw hl.1 kX8_answer ml_X8_99 (c_X8_answer l G am as_ ar ac an ath ah _ m_am v5_ u6 e6) (CutX.take mO_f CutX.none) _ (gx_h mO_o) rfl ⟨rfl, rfl⟩ ⟨Nat.le_of_ble_eq_true rfl, Nat.le_of_ble_eq_true rfl⟩ rfl ⟨Nat.le_of_ble_eq_true rfl, Nat.le_of_ble_eq_true rfl⟩ rfl (Nat.le_of_ble_eq_true rfl) dX8_load_70 (fun H locs hw => ?_)
      refine W.widen (k := 19) (n := 1368) (Nat.le_of_ble_eq_true rfl) (Nat.le_of_ble_eq_true rfl) ?_
      exact fin_iK C hw (Option.some.inj hf) (fun o => o.1) (fun o ads => (mO G am as_ ar ac an ath ah o.2.1 ++ (hO G ah (rgA ads o.2.2.2.2) o.2.2.1 ++ (tO G an t_an ++ (pO G an o.2.2.2.1 ++ (zO G an z_an ++ (eO G an e_an ++ (kO G ads o.2.2.2.2 ++ [])))))))) ads3 rfl rfl dX8_load_73
    · replace hf := ifp hf hc
      refine r_aload0 C hl 0 rfl dX8_load_29 ?_
      refine lv_iconst (v := 5) C.1 C.2.1 dX8_load_30 (by decide) ?_
      obtain ⟨u7, e7, hf⟩ := bx hf
      refine r_callVi (ws' := (mO G am as_ ar ac an ath ah u7.2 ++ (hO G ah (rgA ads rs) h_ah ++ (tO G an t_an ++ (pO G an p_an ++ (zO G an z_an ++ (eO G an e_an ++ (kO G ads rs ++ [])))))))) (As := [.int 5]) (rest := []) C hw hl.1 kX8_refuse ml_X8_63 (c_X8_refuse l G am as_ ar ac an ath ah _ m_am 5 u7 e7) (CutX.take mO_f CutX.none) _ (gx_h mO_o) rfl ⟨rfl, rfl⟩ ⟨Nat.le_of_ble_eq_true rfl, Nat.le_of_ble_eq_true rfl⟩ rfl ⟨Nat.le_of_ble_eq_true rfl, Nat.le_of_ble_eq_true rfl⟩ rfl (Nat.le_of_ble_eq_true rfl) dX8_load_31 (fun H locs hw => ?_)
      refine W.widen (k := 19) (n := 1368) (Nat.le_of_ble_eq_true rfl) (Nat.le_of_ble_eq_true rfl) ?_
      exact fin_iK C hw (Option.some.inj hf) (fun o => o.1) (fun o ads => (mO G am as_ ar ac an ath ah o.2.1 ++ (hO G ah (rgA ads o.2.2.2.2) o.2.2.1 ++ (tO G an t_an ++ (pO G an o.2.2.2.1 ++ (zO G an z_an ++ (eO G an e_an ++ (kO G ads o.2.2.2.2 ++ [])))))))) ads rfl rfl dX8_load_34
  · replace hf := ifn hf hc
    refine r_aload0 C hl 0 rfl dX8_load_8 ?_
    refine lv_iconst (v := 1) C.1 C.2.1 dX8_load_9 (by decide) ?_
    obtain ⟨u8, e8, hf⟩ := bx hf
    refine r_callVi (ws' := (mO G am as_ ar ac an ath ah u8.2 ++ (hO G ah (rgA ads rs) h_ah ++ (tO G an t_an ++ (pO G an p_an ++ (zO G an z_an ++ (eO G an e_an ++ (kO G ads rs ++ [])))))))) (As := [.int 1]) (rest := []) C hw hl.1 kX8_refuse ml_X8_63 (c_X8_refuse l G am as_ ar ac an ath ah _ m_am 1 u8 e8) (CutX.take mO_f CutX.none) _ (gx_h mO_o) rfl ⟨rfl, rfl⟩ ⟨Nat.le_of_ble_eq_true rfl, Nat.le_of_ble_eq_true rfl⟩ rfl ⟨Nat.le_of_ble_eq_true rfl, Nat.le_of_ble_eq_true rfl⟩ rfl (Nat.le_of_ble_eq_true rfl) dX8_load_10 (fun H locs hw => ?_)
    refine W.widen (k := 19) (n := 1368) (Nat.le_of_ble_eq_true rfl) (Nat.le_of_ble_eq_true rfl) ?_
    exact fin_iK C hw (Option.some.inj hf) (fun o => o.1) (fun o ads => (mO G am as_ ar ac an ath ah o.2.1 ++ (hO G ah (rgA ads o.2.2.2.2) o.2.2.1 ++ (tO G an t_an ++ (pO G an o.2.2.2.1 ++ (zO G an z_an ++ (eO G an e_an ++ (kO G ads o.2.2.2.2 ++ [])))))))) ads rfl rfl dX8_load_13
set_option maxHeartbeats 4000000 in
set_option maxRecDepth 100000 in
theorem c_X8_drop (l : Launch) (G : GG) (am : Nat → Nat) (as_ : Nat → Nat) (ar : Nat → Nat) (ac : Nat → Nat) (an : Nat → Nat) (ath : Nat → Nat) (ah : Nat → Nat) (ads : Nat → Nat → Nat) (sz : Nat) (m_am : Pic) (h_ah : Pic) (t_an : Pic) (p_an : Pic) (z_an : Pic) (e_an : Pic) (rs : Nat → Option Q4) (x1 : Int32) (out : Int32 × Pic × Pic × Pic × Pic × (Nat → Option Q4)) (hf : f_X8_drop m_am h_ah t_an p_an z_an e_an rs x1 = some out) : Met l yX8_drop (.code yX8_drop cX8_drop 3 (some .int) :: BT) ({ frames := 5, cells := 19, slots := 1368, locals := 110 }) (va_Pc [.ref (am 99), .int x1] (PreN G sz (mO G am as_ ar ac an ath ah m_am ++ (hO G ah (rgA ads rs) h_ah ++ (tO G an t_an ++ (pO G an p_an ++ (zO G an z_an ++ (eO G an e_an ++ (kO G ads rs ++ []))))))))) (AnsK G out.1 (va_A (mO G am as_ ar ac an ath ah m_am ++ (hO G ah (rgA ads rs) h_ah ++ (tO G an t_an ++ (pO G an p_an ++ (zO G an z_an ++ (eO G an e_an ++ (kO G ads rs ++ []))))))) sz) (fun ads => (mO G am as_ ar ac an ath ah out.2.1 ++ (hO G ah (rgA ads out.2.2.2.2.2) out.2.2.1 ++ (tO G an t_an ++ (pO G an out.2.2.2.1 ++ (zO G an out.2.2.2.2.1 ++ (eO G an e_an ++ (kO G ads out.2.2.2.2.2 ++ []))))))))) 19 1368 (va_A (mO G am as_ ar ac an ath ah m_am ++ (hO G ah (rgA ads rs) h_ah ++ (tO G an t_an ++ (pO G an p_an ++ (zO G an z_an ++ (eO G an e_an ++ (kO G ads rs ++ []))))))) sz) := by
  refine Met.intoN (by decide) (Nat.le_of_ble_eq_true rfl) ?_
  intro p e s m below meth c C hsz hq ls hl hw
  have hl : lv_has ls 3 [(0, .ref (am 99)), (1, .int x1)] := hl
  clear hsz
  generalize va_A (mO G am as_ ar ac an ath ah m_am ++ (hO G ah (rgA ads rs) h_ah ++ (tO G an t_an ++ (pO G an p_an ++ (zO G an z_an ++ (eO G an e_an ++ (kO G ads rs ++ []))))))) sz = A at hw ⊢
  unfold f_X8_drop at hf
  refine r_aload0 C hl 0 rfl dX8_drop_0 ?_
  refine r_iload0 C hl 1 rfl dX8_drop_1 ?_
  obtain ⟨u1, e1, hf⟩ := bx hf
  refine r_callVi (ws' := (mO G am as_ ar ac an ath ah m_am ++ (hO G ah (rgA ads rs) h_ah ++ (tO G an t_an ++ (pO G an p_an ++ (zO G an z_an ++ (eO G an e_an ++ (kO G ads rs ++ [])))))))) (As := [.int x1]) (rest := []) C hw hl.1 kX8_noPage ml_X8_247 (c_X8_noPage l G am as_ ar ac an ath ah _ m_am x1 u1 e1) (CutX.take mO_f CutX.none) _ (gx_h mO_o) rfl ⟨rfl, rfl⟩ ⟨Nat.le_of_ble_eq_true rfl, Nat.le_of_ble_eq_true rfl⟩ rfl ⟨Nat.le_of_ble_eq_true rfl, Nat.le_of_ble_eq_true rfl⟩ rfl (Nat.le_of_ble_eq_true rfl) dX8_drop_2 (fun H locs hw => ?_)
  refine lv_if_eq (tgt := 14) C.1 C.2.1 dX8_drop_5 (by decide) (fun hc => ?_) (fun hc => ?_)
  · replace hf := ifp hf hc
    refine r_aload0 C hl 0 rfl dX8_drop_14 ?_
    refine r_get C hw _ (gx_h mO_o) 9 fl_X8_37 rfl dX8_drop_15 ?_
    refine r_get C hw _ (gx_t (gx_t (gx_h tO_o))) 2 fl_X8_105 rfl dX8_drop_18 ?_
    refine r_get C hw _ (gx_t (gx_t (gx_t (gx_h pO_o)))) 4 fl_X8_250 rfl dX8_drop_21 ?_
    refine r_iload0 C hl 1 rfl dX8_drop_24 ?_
    obtain ⟨v2_, e2, hf⟩ := bx hf
    refine r_iald C hw _ (gx_t (gx_t (gx_t (gx_h pO_g4)))) e2 dX8_drop_25 ?_
    refine r_istore0 C hl [(2, .int v2_), (0, .ref (am 99)), (1, .int x1)] (by decide) rfl dX8_drop_26 (fun ls hl => ?_)
    refine r_iload0 C hl 0 rfl dX8_drop_27 ?_
    refine lv_if_ne (tgt := 37) C.1 C.2.1 dX8_drop_28 (by decide) (fun hc => ?_) (fun hc => ?_)
    · replace hf := ifn hf hc
      refine r_aload0 C hl 1 rfl dX8_drop_37 ?_
      refine r_get C hw _ (gx_h mO_o) 11 fl_X8_51 rfl dX8_drop_38 ?_
      refine r_aload0 C hl 1 rfl dX8_drop_41 ?_
      refine r_get C hw _ (gx_h mO_o) 9 fl_X8_37 rfl dX8_drop_42 ?_
      obtain ⟨u3, e3, hf⟩ := bx hf
      refine r_keep (wr := mO G am as_ ar ac an ath ah m_am ++ ([])) C hq (by simpa only [kW, List.append_assoc, List.nil_append, List.append_nil] using hw) hl.1 ml_X8_324 (c_X2_keep l G ah an ads _ h_ah rs t_an p_an z_an e_an u3 e3) ⟨Nat.le_of_ble_eq_true rfl, Nat.le_of_ble_eq_true rfl⟩ ⟨Nat.le_of_ble_eq_true rfl, Nat.le_of_ble_eq_true rfl⟩ (Nat.le_of_ble_eq_true rfl) dX8_drop_45 (fun ads3 H locs hw => ?_)
      have hw : Wd G A s H locs (mO G am as_ ar ac an ath ah m_am ++ (hO G ah (rgA ads3 u3.2) u3.1 ++ (tO G an t_an ++ (pO G an p_an ++ (zO G an z_an ++ (eO G an e_an ++ (kO G ads3 u3.2 ++ []))))))) := by simpa only [kW, List.append_assoc, List.nil_append, List.append_nil] using hw
      refine r_aload0 C hl 1 rfl dX8_drop_48 ?_
      refine r_get C hw _ (gx_h mO_o) 9 fl_X8_37 rfl dX8_drop_49 ?_
      refine r_get C hw _ (gx_t (gx_t (gx_h tO_o))) 2 fl_X8_105 rfl dX8_drop_52 ?_
      refine r_iload0 C hl 2 rfl dX8_drop_55 ?_
      obtain ⟨u4, e4, hf⟩ := bx hf
      refine r_callVv (ws' := (mO G am as_ ar ac an ath ah m_am ++ (hO G ah (rgA ads3 u3.2) u3.1 ++ (tO G an t_an ++ (pO G an u4.1 ++ (zO G an u4.2 ++ (eO G an e_an ++ (kO G ads3 u3.2 ++ [])))))))) (As := [.int x1]) (rest := []) C hw hl.1 kX3_dropPage ml_X8_335 (c_X3_dropPage l G an _ p_an z_an x1 u4 e4) (CutX.skip (CutX.skip (CutX.skip (CutX.take pO_f (CutX.take zO_f CutX.none))))) _ (gx_t (gx_t (gx_t (gx_h pO_o)))) rfl ⟨rfl, rfl⟩ ⟨Nat.le_of_ble_eq_true rfl, Nat.le_of_ble_eq_true rfl⟩ rfl ⟨Nat.le_of_ble_eq_true rfl, Nat.le_of_ble_eq_true rfl⟩ rfl (Nat.le_of_ble_eq_true rfl) dX8_drop_56 (fun H locs hw => ?_)
      refine r_aload0 C hl 1 rfl dX8_drop_59 ?_
      refine r_iload0 C hl 0 rfl dX8_drop_60 ?_
      obtain ⟨u5, e5, hf⟩ := bx hf
      refine r_callVi (ws' := (mO G am as_ ar ac an ath ah u5.2 ++ (hO G ah (rgA ads3 u3.2) u3.1 ++ (tO G an t_an ++ (pO G an u4.1 ++ (zO G an u4.2 ++ (eO G an e_an ++ (kO G ads3 u3.2 ++ [])))))))) (As := [.int v2_]) (rest := []) C hw hl.1 kX8_answer ml_X8_99 (c_X8_answer l G am as_ ar ac an ath ah _ m_am v2_ u5 e5) (CutX.take mO_f CutX.none) _ (gx_h mO_o) rfl ⟨rfl, rfl⟩ ⟨Nat.le_of_ble_eq_true rfl, Nat.le_of_ble_eq_true rfl⟩ rfl ⟨Nat.le_of_ble_eq_true rfl, Nat.le_of_ble_eq_true rfl⟩ rfl (Nat.le_of_ble_eq_true rfl) dX8_drop_61 (fun H locs hw => ?_)
      refine W.widen (k := 19) (n := 1368) (Nat.le_of_ble_eq_true rfl) (Nat.le_of_ble_eq_true rfl) ?_
      exact fin_iK C hw (Option.some.inj hf) (fun o => o.1) (fun o ads => (mO G am as_ ar ac an ath ah o.2.1 ++ (hO G ah (rgA ads o.2.2.2.2.2) o.2.2.1 ++ (tO G an t_an ++ (pO G an o.2.2.2.1 ++ (zO G an o.2.2.2.2.1 ++ (eO G an e_an ++ (kO G ads o.2.2.2.2.2 ++ [])))))))) ads3 rfl rfl dX8_drop_64
    · replace hf := ifp hf hc
      refine r_aload0 C hl 1 rfl dX8_drop_31 ?_
      refine lv_iconst (v := 5) C.1 C.2.1 dX8_drop_32 (by decide) ?_
      obtain ⟨u6, e6, hf⟩ := bx hf
      refine r_callVi (ws' := (mO G am as_ ar ac an ath ah u6.2 ++ (hO G ah (rgA ads rs) h_ah ++ (tO G an t_an ++ (pO G an p_an ++ (zO G an z_an ++ (eO G an e_an ++ (kO G ads rs ++ [])))))))) (As := [.int 5]) (rest := []) C hw hl.1 kX8_refuse ml_X8_63 (c_X8_refuse l G am as_ ar ac an ath ah _ m_am 5 u6 e6) (CutX.take mO_f CutX.none) _ (gx_h mO_o) rfl ⟨rfl, rfl⟩ ⟨Nat.le_of_ble_eq_true rfl, Nat.le_of_ble_eq_true rfl⟩ rfl ⟨Nat.le_of_ble_eq_true rfl, Nat.le_of_ble_eq_true rfl⟩ rfl (Nat.le_of_ble_eq_true rfl) dX8_drop_33 (fun H locs hw => ?_)
      refine W.widen (k := 19) (n := 1368) (Nat.le_of_ble_eq_true rfl) (Nat.le_of_ble_eq_true rfl) ?_
      exact fin_iK C hw (Option.some.inj hf) (fun o => o.1) (fun o ads => (mO G am as_ ar ac an ath ah o.2.1 ++ (hO G ah (rgA ads o.2.2.2.2.2) o.2.2.1 ++ (tO G an t_an ++ (pO G an o.2.2.2.1 ++ (zO G an o.2.2.2.2.1 ++ (eO G an e_an ++ (kO G ads o.2.2.2.2.2 ++ [])))))))) ads rfl rfl dX8_drop_36
  · replace hf := ifn hf hc
    refine r_aload0 C hl 0 rfl dX8_drop_8 ?_
    refine lv_iconst (v := 1) C.1 C.2.1 dX8_drop_9 (by decide) ?_
    obtain ⟨u7, e7, hf⟩ := bx hf
    refine r_callVi (ws' := (mO G am as_ ar ac an ath ah u7.2 ++ (hO G ah (rgA ads rs) h_ah ++ (tO G an t_an ++ (pO G an p_an ++ (zO G an z_an ++ (eO G an e_an ++ (kO G ads rs ++ [])))))))) (As := [.int 1]) (rest := []) C hw hl.1 kX8_refuse ml_X8_63 (c_X8_refuse l G am as_ ar ac an ath ah _ m_am 1 u7 e7) (CutX.take mO_f CutX.none) _ (gx_h mO_o) rfl ⟨rfl, rfl⟩ ⟨Nat.le_of_ble_eq_true rfl, Nat.le_of_ble_eq_true rfl⟩ rfl ⟨Nat.le_of_ble_eq_true rfl, Nat.le_of_ble_eq_true rfl⟩ rfl (Nat.le_of_ble_eq_true rfl) dX8_drop_10 (fun H locs hw => ?_)
    refine W.widen (k := 19) (n := 1368) (Nat.le_of_ble_eq_true rfl) (Nat.le_of_ble_eq_true rfl) ?_
    exact fin_iK C hw (Option.some.inj hf) (fun o => o.1) (fun o ads => (mO G am as_ ar ac an ath ah o.2.1 ++ (hO G ah (rgA ads o.2.2.2.2.2) o.2.2.1 ++ (tO G an t_an ++ (pO G an o.2.2.2.1 ++ (zO G an o.2.2.2.2.1 ++ (eO G an e_an ++ (kO G ads o.2.2.2.2.2 ++ [])))))))) ads rfl rfl dX8_drop_13
set_option maxHeartbeats 4000000 in
set_option maxRecDepth 100000 in
theorem c_X8_hold (l : Launch) (G : GG) (am : Nat → Nat) (as_ : Nat → Nat) (ar : Nat → Nat) (ac : Nat → Nat) (an : Nat → Nat) (ath : Nat → Nat) (ah : Nat → Nat) (ads : Nat → Nat → Nat) (sz : Nat) (m_am : Pic) (h_ah : Pic) (t_an : Pic) (p_an : Pic) (z_an : Pic) (e_an : Pic) (rs : Nat → Option Q4) (x1 : Int32) (out : Int32 × Pic × Pic × Pic × (Nat → Option Q4)) (hf : f_X8_hold m_am h_ah t_an p_an z_an e_an rs x1 = some out) : Met l yX8_hold (.code yX8_hold cX8_hold 2 (some .boolean) :: BT) ({ frames := 5, cells := 19, slots := 1368, locals := 110 }) (va_Pc [.ref (am 99), .int x1] (PreN G sz (mO G am as_ ar ac an ath ah m_am ++ (hO G ah (rgA ads rs) h_ah ++ (tO G an t_an ++ (pO G an p_an ++ (zO G an z_an ++ (eO G an e_an ++ (kO G ads rs ++ []))))))))) (AnsK G out.1 (va_A (mO G am as_ ar ac an ath ah m_am ++ (hO G ah (rgA ads rs) h_ah ++ (tO G an t_an ++ (pO G an p_an ++ (zO G an z_an ++ (eO G an e_an ++ (kO G ads rs ++ []))))))) sz) (fun ads => (mO G am as_ ar ac an ath ah out.2.1 ++ (hO G ah (rgA ads out.2.2.2.2) out.2.2.1 ++ (tO G an t_an ++ (pO G an out.2.2.2.1 ++ (zO G an z_an ++ (eO G an e_an ++ (kO G ads out.2.2.2.2 ++ []))))))))) 19 1368 (va_A (mO G am as_ ar ac an ath ah m_am ++ (hO G ah (rgA ads rs) h_ah ++ (tO G an t_an ++ (pO G an p_an ++ (zO G an z_an ++ (eO G an e_an ++ (kO G ads rs ++ []))))))) sz) := by
  refine Met.intoN (by decide) (Nat.le_of_ble_eq_true rfl) ?_
  intro p e s m below meth c C hsz hq ls hl hw
  have hl : lv_has ls 2 [(0, .ref (am 99)), (1, .int x1)] := hl
  clear hsz
  generalize va_A (mO G am as_ ar ac an ath ah m_am ++ (hO G ah (rgA ads rs) h_ah ++ (tO G an t_an ++ (pO G an p_an ++ (zO G an z_an ++ (eO G an e_an ++ (kO G ads rs ++ []))))))) sz = A at hw ⊢
  have hB_45 : ∀ (m_am : Pic) (h_ah : Pic) (p_an : Pic) (rs : Nat → Option Q4), b_X8_hold_45 t_an z_an e_an x1  m_am h_ah p_an rs = some out → ∀ (ads : Nat → Nat → Nat) (H : Heap) (locs : List Loc), Wd G A s H locs (mO G am as_ ar ac an ath ah m_am ++ (hO G ah (rgA ads rs) h_ah ++ (tO G an t_an ++ (pO G an p_an ++ (zO G an z_an ++ (eO G an e_an ++ (kO G ads rs ++ []))))))) → ∀ ls : Array Slot, lv_has ls 2 [(0, .ref (am 99))] → W p l e ({ frames := 5, cells := 19, slots := 1368, locals := 110 }) s m [.ref (am 99), .int x1].toArray below meth c H locs 0 0 (MQ below (AnsK G out.1 A (fun ads => (mO G am as_ ar ac an ath ah out.2.1 ++ (hO G ah (rgA ads out.2.2.2.2) out.2.2.1 ++ (tO G an t_an ++ (pO G an out.2.2.2.1 ++ (zO G an z_an ++ (eO G an e_an ++ (kO G ads out.2.2.2.2 ++ []))))))))) [.ref (am 99), .int x1].toArray s 19 1368 A) (F0 m 45 ls []) := by
    intro m_am h_ah p_an rs hf ads H locs hw ls hl
    unfold b_X8_hold_45 at hf
    refine r_aload0 C hl 0 rfl dX8_hold_45 ?_
    refine lv_iconst (v := 5) C.1 C.2.1 dX8_hold_46 (by decide) ?_
    obtain ⟨u3, e3, hf⟩ := bx hf
    refine r_callVi (ws' := (mO G am as_ ar ac an ath ah u3.2 ++ (hO G ah (rgA ads rs) h_ah ++ (tO G an t_an ++ (pO G an p_an ++ (zO G an z_an ++ (eO G an e_an ++ (kO G ads rs ++ [])))))))) (As := [.int 5]) (rest := []) C hw hl.1 kX8_refuseFlatly ml_X8_338 (c_X8_refuseFlatly l G am as_ ar ac an ath ah _ m_am 5 u3 e3) (CutX.take mO_f CutX.none) _ (gx_h mO_o) rfl ⟨rfl, rfl⟩ ⟨Nat.le_of_ble_eq_true rfl, Nat.le_of_ble_eq_true rfl⟩ rfl ⟨Nat.le_of_ble_eq_true rfl, Nat.le_of_ble_eq_true rfl⟩ rfl (Nat.le_of_ble_eq_true rfl) dX8_hold_47 (fun H locs hw => ?_)
    obtain ⟨z4_, e4, hf⟩ := bx hf
    obtain rfl := okZ_in e4
    refine W.widen (k := 19) (n := 1368) (Nat.le_of_ble_eq_true rfl) (Nat.le_of_ble_eq_true rfl) ?_
    exact fin_zK C hw e4 (Option.some.inj hf) (fun o => o.1) (fun o ads => (mO G am as_ ar ac an ath ah o.2.1 ++ (hO G ah (rgA ads o.2.2.2.2) o.2.2.1 ++ (tO G an t_an ++ (pO G an o.2.2.2.1 ++ (zO G an z_an ++ (eO G an e_an ++ (kO G ads o.2.2.2.2 ++ [])))))))) ads rfl rfl dX8_hold_50
  unfold f_X8_hold at hf
  refine r_aload0 C hl 0 rfl dX8_hold_0 ?_
  refine r_iload0 C hl 1 rfl dX8_hold_1 ?_
  obtain ⟨u1, e1, hf⟩ := bx hf
  refine r_callVi (ws' := (mO G am as_ ar ac an ath ah m_am ++ (hO G ah (rgA ads rs) h_ah ++ (tO G an t_an ++ (pO G an p_an ++ (zO G an z_an ++ (eO G an e_an ++ (kO G ads rs ++ [])))))))) (As := [.int x1]) (rest := []) C hw hl.1 kX8_noPage ml_X8_247 (c_X8_noPage l G am as_ ar ac an ath ah _ m_am x1 u1 e1) (CutX.take mO_f CutX.none) _ (gx_h mO_o) rfl ⟨rfl, rfl⟩ ⟨Nat.le_of_ble_eq_true rfl, Nat.le_of_ble_eq_true rfl⟩ rfl ⟨Nat.le_of_ble_eq_true rfl, Nat.le_of_ble_eq_true rfl⟩ rfl (Nat.le_of_ble_eq_true rfl) dX8_hold_2 (fun H locs hw => ?_)
  refine lv_if_eq (tgt := 14) C.1 C.2.1 dX8_hold_5 (by decide) (fun hc => ?_) (fun hc => ?_)
  · replace hf := ifp hf hc
    refine r_aload0 C hl 0 rfl dX8_hold_14 ?_
    refine r_get C hw _ (gx_h mO_o) 9 fl_X8_37 rfl dX8_hold_15 ?_
    refine r_get C hw _ (gx_t (gx_t (gx_h tO_o))) 2 fl_X8_105 rfl dX8_hold_18 ?_
    refine r_get C hw _ (gx_t (gx_t (gx_t (gx_h pO_o)))) 4 fl_X8_250 rfl dX8_hold_21 ?_
    refine r_iload0 C hl 1 rfl dX8_hold_24 ?_
    obtain ⟨v2_, e2, hf⟩ := bx hf
    refine r_iald C hw _ (gx_t (gx_t (gx_t (gx_h pO_g4)))) e2 dX8_hold_25 ?_
    refine lv_iconst (v := 2) C.1 C.2.1 dX8_hold_26 (by decide) ?_
    refine lv_icmp_ne (tgt := 45) C.1 C.2.1 dX8_hold_27 (by decide) (fun hc => ?_) (fun hc => ?_)
    · replace hf := ifn hf hc
      exact hB_45  m_am h_ah p_an rs hf _ _ _ hw _ (lv_sub hl [0] rfl)
    · replace hf := ifp hf hc
      refine r_aload0 C hl 0 rfl dX8_hold_30 ?_
      refine r_get C hw _ (gx_h mO_o) 9 fl_X8_37 rfl dX8_hold_31 ?_
      refine r_get C hw _ (gx_t (gx_t (gx_h tO_o))) 2 fl_X8_105 rfl dX8_hold_34 ?_
      refine r_get C hw _ (gx_t (gx_t (gx_t (gx_h pO_o)))) 8 fl_X8_263 rfl dX8_hold_37 ?_
      refine r_iload0 C hl 1 rfl dX8_hold_40 ?_
      obtain ⟨v5_, e5, hf⟩ := bx hf
      refine r_iald C hw _ (gx_t (gx_t (gx_t (gx_h pO_g8)))) e5 dX8_hold_41 ?_
      refine lv_if_eq (tgt := 51) C.1 C.2.1 dX8_hold_42 (by decide) (fun hc => ?_) (fun hc => ?_)
      · replace hf := ifp hf hc
        refine r_aload0 C hl 0 rfl dX8_hold_51 ?_
        refine r_get C hw _ (gx_h mO_o) 11 fl_X8_51 rfl dX8_hold_52 ?_
        refine r_aload0 C hl 0 rfl dX8_hold_55 ?_
        refine r_get C hw _ (gx_h mO_o) 9 fl_X8_37 rfl dX8_hold_56 ?_
        obtain ⟨u6, e6, hf⟩ := bx hf
        refine r_keep (wr := mO G am as_ ar ac an ath ah m_am ++ ([])) C hq (by simpa only [kW, List.append_assoc, List.nil_append, List.append_nil] using hw) hl.1 ml_X8_324 (c_X2_keep l G ah an ads _ h_ah rs t_an p_an z_an e_an u6 e6) ⟨Nat.le_of_ble_eq_true rfl, Nat.le_of_ble_eq_true rfl⟩ ⟨Nat.le_of_ble_eq_true rfl, Nat.le_of_ble_eq_true rfl⟩ (Nat.le_of_ble_eq_true rfl) dX8_hold_59 (fun ads6 H locs hw => ?_)
        have hw : Wd G A s H locs (mO G am as_ ar ac an ath ah m_am ++ (hO G ah (rgA ads6 u6.2) u6.1 ++ (tO G an t_an ++ (pO G an p_an ++ (zO G an z_an ++ (eO G an e_an ++ (kO G ads6 u6.2 ++ []))))))) := by simpa only [kW, List.append_assoc, List.nil_append, List.append_nil] using hw
        refine r_aload0 C hl 0 rfl dX8_hold_62 ?_
        refine r_get C hw _ (gx_h mO_o) 9 fl_X8_37 rfl dX8_hold_63 ?_
        refine r_get C hw _ (gx_t (gx_t (gx_h tO_o))) 2 fl_X8_105 rfl dX8_hold_66 ?_
        refine r_get C hw _ (gx_t (gx_t (gx_t (gx_h pO_o)))) 8 fl_X8_263 rfl dX8_hold_69 ?_
        refine r_iload0 C hl 1 rfl dX8_hold_72 ?_
        refine lv_iconst (v := 1) C.1 C.2.1 dX8_hold_73 (by decide) ?_
        obtain ⟨p_an7, e7, hf⟩ := bx hf
        refine r_iast C hw _ (gx_t (gx_t (gx_t (gx_h pO_g8)))) e7 (mO G am as_ ar ac an ath ah m_am ++ (hO G ah (rgA ads6 u6.2) u6.1 ++ (tO G an t_an ++ (pO G an p_an7 ++ (zO G an z_an ++ (eO G an e_an ++ (kO G ads6 u6.2 ++ []))))))) (fun h => (sx_t (sx_t (sx_t (sx_h pO_g8 (pO_s8 h)))))) dX8_hold_74 (fun H locs hw => ?_)
        refine r_aload0 C hl 0 rfl dX8_hold_75 ?_
        obtain ⟨u8, e8, hf⟩ := bx hf
        refine r_callVi (ws' := (mO G am as_ ar ac an ath ah u8.2 ++ (hO G ah (rgA ads6 u6.2) u6.1 ++ (tO G an t_an ++ (pO G an p_an7 ++ (zO G an z_an ++ (eO G an e_an ++ (kO G ads6 u6.2 ++ [])))))))) (As := []) (rest := []) C hw hl.1 kX8_agree ml_X8_341 (c_X8_agree l G am as_ ar ac an ath ah _ m_am u8 e8) (CutX.take mO_f CutX.none) _ (gx_h mO_o) rfl ⟨rfl, rfl⟩ ⟨Nat.le_of_ble_eq_true rfl, Nat.le_of_ble_eq_true rfl⟩ rfl ⟨Nat.le_of_ble_eq_true rfl, Nat.le_of_ble_eq_true rfl⟩ rfl (Nat.le_of_ble_eq_true rfl) dX8_hold_76 (fun H locs hw => ?_)
        obtain ⟨z9_, e9, hf⟩ := bx hf
        obtain rfl := okZ_in e9
        refine W.widen (k := 19) (n := 1368) (Nat.le_of_ble_eq_true rfl) (Nat.le_of_ble_eq_true rfl) ?_
        exact fin_zK C hw e9 (Option.some.inj hf) (fun o => o.1) (fun o ads => (mO G am as_ ar ac an ath ah o.2.1 ++ (hO G ah (rgA ads o.2.2.2.2) o.2.2.1 ++ (tO G an t_an ++ (pO G an o.2.2.2.1 ++ (zO G an z_an ++ (eO G an e_an ++ (kO G ads o.2.2.2.2 ++ [])))))))) ads6 rfl rfl dX8_hold_79
      · replace hf := ifn hf hc
        exact hB_45  m_am h_ah p_an rs hf _ _ _ hw _ (lv_sub hl [0] rfl)
  · replace hf := ifn hf hc
    refine r_aload0 C hl 0 rfl dX8_hold_8 ?_
    refine lv_iconst (v := 1) C.1 C.2.1 dX8_hold_9 (by decide) ?_
    obtain ⟨u10, e10, hf⟩ := bx hf
    refine r_callVi (ws' := (mO G am as_ ar ac an ath ah u10.2 ++ (hO G ah (rgA ads rs) h_ah ++ (tO G an t_an ++ (pO G an p_an ++ (zO G an z_an ++ (eO G an e_an ++ (kO G ads rs ++ [])))))))) (As := [.int 1]) (rest := []) C hw hl.1 kX8_refuseFlatly ml_X8_338 (c_X8_refuseFlatly l G am as_ ar ac an ath ah _ m_am 1 u10 e10) (CutX.take mO_f CutX.none) _ (gx_h mO_o) rfl ⟨rfl, rfl⟩ ⟨Nat.le_of_ble_eq_true rfl, Nat.le_of_ble_eq_true rfl⟩ rfl ⟨Nat.le_of_ble_eq_true rfl, Nat.le_of_ble_eq_true rfl⟩ rfl (Nat.le_of_ble_eq_true rfl) dX8_hold_10 (fun H locs hw => ?_)
    obtain ⟨z11_, e11, hf⟩ := bx hf
    obtain rfl := okZ_in e11
    refine W.widen (k := 19) (n := 1368) (Nat.le_of_ble_eq_true rfl) (Nat.le_of_ble_eq_true rfl) ?_
    exact fin_zK C hw e11 (Option.some.inj hf) (fun o => o.1) (fun o ads => (mO G am as_ ar ac an ath ah o.2.1 ++ (hO G ah (rgA ads o.2.2.2.2) o.2.2.1 ++ (tO G an t_an ++ (pO G an o.2.2.2.1 ++ (zO G an z_an ++ (eO G an e_an ++ (kO G ads o.2.2.2.2 ++ [])))))))) ads rfl rfl dX8_hold_13
set_option maxHeartbeats 4000000 in
set_option maxRecDepth 100000 in
theorem c_X8_release (l : Launch) (G : GG) (am : Nat → Nat) (as_ : Nat → Nat) (ar : Nat → Nat) (ac : Nat → Nat) (an : Nat → Nat) (ath : Nat → Nat) (ah : Nat → Nat) (ads : Nat → Nat → Nat) (sz : Nat) (m_am : Pic) (h_ah : Pic) (t_an : Pic) (p_an : Pic) (z_an : Pic) (e_an : Pic) (rs : Nat → Option Q4) (x1 : Int32) (out : Int32 × Pic × Pic × Pic × (Nat → Option Q4)) (hf : f_X8_release m_am h_ah t_an p_an z_an e_an rs x1 = some out) : Met l yX8_release (.code yX8_release cX8_release 2 (some .boolean) :: BT) ({ frames := 5, cells := 19, slots := 1368, locals := 110 }) (va_Pc [.ref (am 99), .int x1] (PreN G sz (mO G am as_ ar ac an ath ah m_am ++ (hO G ah (rgA ads rs) h_ah ++ (tO G an t_an ++ (pO G an p_an ++ (zO G an z_an ++ (eO G an e_an ++ (kO G ads rs ++ []))))))))) (AnsK G out.1 (va_A (mO G am as_ ar ac an ath ah m_am ++ (hO G ah (rgA ads rs) h_ah ++ (tO G an t_an ++ (pO G an p_an ++ (zO G an z_an ++ (eO G an e_an ++ (kO G ads rs ++ []))))))) sz) (fun ads => (mO G am as_ ar ac an ath ah out.2.1 ++ (hO G ah (rgA ads out.2.2.2.2) out.2.2.1 ++ (tO G an t_an ++ (pO G an out.2.2.2.1 ++ (zO G an z_an ++ (eO G an e_an ++ (kO G ads out.2.2.2.2 ++ []))))))))) 19 1368 (va_A (mO G am as_ ar ac an ath ah m_am ++ (hO G ah (rgA ads rs) h_ah ++ (tO G an t_an ++ (pO G an p_an ++ (zO G an z_an ++ (eO G an e_an ++ (kO G ads rs ++ []))))))) sz) := by
  refine Met.intoN (by decide) (Nat.le_of_ble_eq_true rfl) ?_
  intro p e s m below meth c C hsz hq ls hl hw
  have hl : lv_has ls 2 [(0, .ref (am 99)), (1, .int x1)] := hl
  clear hsz
  generalize va_A (mO G am as_ ar ac an ath ah m_am ++ (hO G ah (rgA ads rs) h_ah ++ (tO G an t_an ++ (pO G an p_an ++ (zO G an z_an ++ (eO G an e_an ++ (kO G ads rs ++ []))))))) sz = A at hw ⊢
  unfold f_X8_release at hf
  refine r_aload0 C hl 0 rfl dX8_release_0 ?_
  refine r_iload0 C hl 1 rfl dX8_release_1 ?_
  obtain ⟨u1, e1, hf⟩ := bx hf
  refine r_callVi (ws' := (mO G am as_ ar ac an ath ah m_am ++ (hO G ah (rgA ads rs) h_ah ++ (tO G an t_an ++ (pO G an p_an ++ (zO G an z_an ++ (eO G an e_an ++ (kO G ads rs ++ [])))))))) (As := [.int x1]) (rest := []) C hw hl.1 kX8_noPage ml_X8_247 (c_X8_noPage l G am as_ ar ac an ath ah _ m_am x1 u1 e1) (CutX.take mO_f CutX.none) _ (gx_h mO_o) rfl ⟨rfl, rfl⟩ ⟨Nat.le_of_ble_eq_true rfl, Nat.le_of_ble_eq_true rfl⟩ rfl ⟨Nat.le_of_ble_eq_true rfl, Nat.le_of_ble_eq_true rfl⟩ rfl (Nat.le_of_ble_eq_true rfl) dX8_release_2 (fun H locs hw => ?_)
  refine lv_if_eq (tgt := 14) C.1 C.2.1 dX8_release_5 (by decide) (fun hc => ?_) (fun hc => ?_)
  · replace hf := ifp hf hc
    refine r_aload0 C hl 0 rfl dX8_release_14 ?_
    refine r_get C hw _ (gx_h mO_o) 9 fl_X8_37 rfl dX8_release_15 ?_
    refine r_get C hw _ (gx_t (gx_t (gx_h tO_o))) 2 fl_X8_105 rfl dX8_release_18 ?_
    refine r_get C hw _ (gx_t (gx_t (gx_t (gx_h pO_o)))) 8 fl_X8_263 rfl dX8_release_21 ?_
    refine r_iload0 C hl 1 rfl dX8_release_24 ?_
    obtain ⟨v2_, e2, hf⟩ := bx hf
    refine r_iald C hw _ (gx_t (gx_t (gx_t (gx_h pO_g8)))) e2 dX8_release_25 ?_
    refine lv_if_ne (tgt := 35) C.1 C.2.1 dX8_release_26 (by decide) (fun hc => ?_) (fun hc => ?_)
    · replace hf := ifn hf hc
      refine r_aload0 C hl 0 rfl dX8_release_35 ?_
      refine r_get C hw _ (gx_h mO_o) 11 fl_X8_51 rfl dX8_release_36 ?_
      refine r_aload0 C hl 0 rfl dX8_release_39 ?_
      refine r_get C hw _ (gx_h mO_o) 9 fl_X8_37 rfl dX8_release_40 ?_
      obtain ⟨u3, e3, hf⟩ := bx hf
      refine r_keep (wr := mO G am as_ ar ac an ath ah m_am ++ ([])) C hq (by simpa only [kW, List.append_assoc, List.nil_append, List.append_nil] using hw) hl.1 ml_X8_324 (c_X2_keep l G ah an ads _ h_ah rs t_an p_an z_an e_an u3 e3) ⟨Nat.le_of_ble_eq_true rfl, Nat.le_of_ble_eq_true rfl⟩ ⟨Nat.le_of_ble_eq_true rfl, Nat.le_of_ble_eq_true rfl⟩ (Nat.le_of_ble_eq_true rfl) dX8_release_43 (fun ads3 H locs hw => ?_)
      have hw : Wd G A s H locs (mO G am as_ ar ac an ath ah m_am ++ (hO G ah (rgA ads3 u3.2) u3.1 ++ (tO G an t_an ++ (pO G an p_an ++ (zO G an z_an ++ (eO G an e_an ++ (kO G ads3 u3.2 ++ []))))))) := by simpa only [kW, List.append_assoc, List.nil_append, List.append_nil] using hw
      refine r_aload0 C hl 0 rfl dX8_release_46 ?_
      refine r_get C hw _ (gx_h mO_o) 9 fl_X8_37 rfl dX8_release_47 ?_
      refine r_get C hw _ (gx_t (gx_t (gx_h tO_o))) 2 fl_X8_105 rfl dX8_release_50 ?_
      refine r_get C hw _ (gx_t (gx_t (gx_t (gx_h pO_o)))) 8 fl_X8_263 rfl dX8_release_53 ?_
      refine r_iload0 C hl 1 rfl dX8_release_56 ?_
      refine lv_iconst (v := 0) C.1 C.2.1 dX8_release_57 (by decide) ?_
      obtain ⟨p_an4, e4, hf⟩ := bx hf
      refine r_iast C hw _ (gx_t (gx_t (gx_t (gx_h pO_g8)))) e4 (mO G am as_ ar ac an ath ah m_am ++ (hO G ah (rgA ads3 u3.2) u3.1 ++ (tO G an t_an ++ (pO G an p_an4 ++ (zO G an z_an ++ (eO G an e_an ++ (kO G ads3 u3.2 ++ []))))))) (fun h => (sx_t (sx_t (sx_t (sx_h pO_g8 (pO_s8 h)))))) dX8_release_58 (fun H locs hw => ?_)
      refine r_aload0 C hl 0 rfl dX8_release_59 ?_
      obtain ⟨u5, e5, hf⟩ := bx hf
      refine r_callVi (ws' := (mO G am as_ ar ac an ath ah u5.2 ++ (hO G ah (rgA ads3 u3.2) u3.1 ++ (tO G an t_an ++ (pO G an p_an4 ++ (zO G an z_an ++ (eO G an e_an ++ (kO G ads3 u3.2 ++ [])))))))) (As := []) (rest := []) C hw hl.1 kX8_agree ml_X8_341 (c_X8_agree l G am as_ ar ac an ath ah _ m_am u5 e5) (CutX.take mO_f CutX.none) _ (gx_h mO_o) rfl ⟨rfl, rfl⟩ ⟨Nat.le_of_ble_eq_true rfl, Nat.le_of_ble_eq_true rfl⟩ rfl ⟨Nat.le_of_ble_eq_true rfl, Nat.le_of_ble_eq_true rfl⟩ rfl (Nat.le_of_ble_eq_true rfl) dX8_release_60 (fun H locs hw => ?_)
      obtain ⟨z6_, e6, hf⟩ := bx hf
      obtain rfl := okZ_in e6
      refine W.widen (k := 19) (n := 1368) (Nat.le_of_ble_eq_true rfl) (Nat.le_of_ble_eq_true rfl) ?_
      exact fin_zK C hw e6 (Option.some.inj hf) (fun o => o.1) (fun o ads => (mO G am as_ ar ac an ath ah o.2.1 ++ (hO G ah (rgA ads o.2.2.2.2) o.2.2.1 ++ (tO G an t_an ++ (pO G an o.2.2.2.1 ++ (zO G an z_an ++ (eO G an e_an ++ (kO G ads o.2.2.2.2 ++ [])))))))) ads3 rfl rfl dX8_release_63
    · replace hf := ifp hf hc
      refine r_aload0 C hl 0 rfl dX8_release_29 ?_
      refine lv_iconst (v := 5) C.1 C.2.1 dX8_release_30 (by decide) ?_
      obtain ⟨u7, e7, hf⟩ := bx hf
      refine r_callVi (ws' := (mO G am as_ ar ac an ath ah u7.2 ++ (hO G ah (rgA ads rs) h_ah ++ (tO G an t_an ++ (pO G an p_an ++ (zO G an z_an ++ (eO G an e_an ++ (kO G ads rs ++ [])))))))) (As := [.int 5]) (rest := []) C hw hl.1 kX8_refuseFlatly ml_X8_338 (c_X8_refuseFlatly l G am as_ ar ac an ath ah _ m_am 5 u7 e7) (CutX.take mO_f CutX.none) _ (gx_h mO_o) rfl ⟨rfl, rfl⟩ ⟨Nat.le_of_ble_eq_true rfl, Nat.le_of_ble_eq_true rfl⟩ rfl ⟨Nat.le_of_ble_eq_true rfl, Nat.le_of_ble_eq_true rfl⟩ rfl (Nat.le_of_ble_eq_true rfl) dX8_release_31 (fun H locs hw => ?_)
      obtain ⟨z8_, e8, hf⟩ := bx hf
      obtain rfl := okZ_in e8
      refine W.widen (k := 19) (n := 1368) (Nat.le_of_ble_eq_true rfl) (Nat.le_of_ble_eq_true rfl) ?_
      exact fin_zK C hw e8 (Option.some.inj hf) (fun o => o.1) (fun o ads => (mO G am as_ ar ac an ath ah o.2.1 ++ (hO G ah (rgA ads o.2.2.2.2) o.2.2.1 ++ (tO G an t_an ++ (pO G an o.2.2.2.1 ++ (zO G an z_an ++ (eO G an e_an ++ (kO G ads o.2.2.2.2 ++ [])))))))) ads rfl rfl dX8_release_34
  · replace hf := ifn hf hc
    refine r_aload0 C hl 0 rfl dX8_release_8 ?_
    refine lv_iconst (v := 1) C.1 C.2.1 dX8_release_9 (by decide) ?_
    obtain ⟨u9, e9, hf⟩ := bx hf
    refine r_callVi (ws' := (mO G am as_ ar ac an ath ah u9.2 ++ (hO G ah (rgA ads rs) h_ah ++ (tO G an t_an ++ (pO G an p_an ++ (zO G an z_an ++ (eO G an e_an ++ (kO G ads rs ++ [])))))))) (As := [.int 1]) (rest := []) C hw hl.1 kX8_refuseFlatly ml_X8_338 (c_X8_refuseFlatly l G am as_ ar ac an ath ah _ m_am 1 u9 e9) (CutX.take mO_f CutX.none) _ (gx_h mO_o) rfl ⟨rfl, rfl⟩ ⟨Nat.le_of_ble_eq_true rfl, Nat.le_of_ble_eq_true rfl⟩ rfl ⟨Nat.le_of_ble_eq_true rfl, Nat.le_of_ble_eq_true rfl⟩ rfl (Nat.le_of_ble_eq_true rfl) dX8_release_10 (fun H locs hw => ?_)
    obtain ⟨z10_, e10, hf⟩ := bx hf
    obtain rfl := okZ_in e10
    refine W.widen (k := 19) (n := 1368) (Nat.le_of_ble_eq_true rfl) (Nat.le_of_ble_eq_true rfl) ?_
    exact fin_zK C hw e10 (Option.some.inj hf) (fun o => o.1) (fun o ads => (mO G am as_ ar ac an ath ah o.2.1 ++ (hO G ah (rgA ads o.2.2.2.2) o.2.2.1 ++ (tO G an t_an ++ (pO G an o.2.2.2.1 ++ (zO G an z_an ++ (eO G an e_an ++ (kO G ads o.2.2.2.2 ++ [])))))))) ads rfl rfl dX8_release_13
set_option maxHeartbeats 4000000 in
set_option maxRecDepth 100000 in
theorem c_X8_poke (l : Launch) (G : GG) (am : Nat → Nat) (as_ : Nat → Nat) (ar : Nat → Nat) (ac : Nat → Nat) (an : Nat → Nat) (ath : Nat → Nat) (ah : Nat → Nat) (ads : Nat → Nat → Nat) (sz : Nat) (m_am : Pic) (s_as_ : Pic) (c_ac : Pic) (h_ah : Pic) (t_an : Pic) (p_an : Pic) (z_an : Pic) (e_an : Pic) (rs : Nat → Option Q4) (x1 : Int32) (x2 : Int32) (x3 : Int32) (out : Int32 × Pic × Pic × Pic × Pic × Pic × (Nat → Option Q4)) (hf : f_X8_poke m_am s_as_ c_ac h_ah t_an p_an z_an e_an rs x1 x2 x3 = some out) : Met l yX8_poke (.code yX8_poke cX8_poke 5 (some .int) :: BT) ({ frames := 5, cells := 19, slots := 1368, locals := 117 }) (va_Pc [.ref (am 99), .int x1, .int x2, .int x3] (PreN G sz (mO G am as_ ar ac an ath ah m_am ++ (sO G as_ s_as_ ++ (cO G ac c_ac ++ (hO G ah (rgA ads rs) h_ah ++ (tO G an t_an ++ (pO G an p_an ++ (zO G an z_an ++ (eO G an e_an ++ (kO G ads rs ++ []))))))))))) (AnsK G out.1 (va_A (mO G am as_ ar ac an ath ah m_am ++ (sO G as_ s_as_ ++ (cO G ac c_ac ++ (hO G ah (rgA ads rs) h_ah ++ (tO G an t_an ++ (pO G an p_an ++ (zO G an z_an ++ (eO G an e_an ++ (kO G ads rs ++ []))))))))) sz) (fun ads => (mO G am as_ ar ac an ath ah out.2.1 ++ (sO G as_ s_as_ ++ (cO G ac out.2.2.1 ++ (hO G ah (rgA ads out.2.2.2.2.2.2) out.2.2.2.1 ++ (tO G an out.2.2.2.2.1 ++ (pO G an p_an ++ (zO G an z_an ++ (eO G an out.2.2.2.2.2.1 ++ (kO G ads out.2.2.2.2.2.2 ++ []))))))))))) 19 1368 (va_A (mO G am as_ ar ac an ath ah m_am ++ (sO G as_ s_as_ ++ (cO G ac c_ac ++ (hO G ah (rgA ads rs) h_ah ++ (tO G an t_an ++ (pO G an p_an ++ (zO G an z_an ++ (eO G an e_an ++ (kO G ads rs ++ []))))))))) sz) := by
  refine Met.intoN (by decide) (Nat.le_of_ble_eq_true rfl) ?_
  intro p e s m below meth c C hsz hq ls hl hw
  have hl : lv_has ls 5 [(0, .ref (am 99)), (1, .int x1), (2, .int x2), (3, .int x3)] := hl
  clear hsz
  generalize va_A (mO G am as_ ar ac an ath ah m_am ++ (sO G as_ s_as_ ++ (cO G ac c_ac ++ (hO G ah (rgA ads rs) h_ah ++ (tO G an t_an ++ (pO G an p_an ++ (zO G an z_an ++ (eO G an e_an ++ (kO G ads rs ++ []))))))))) sz = A at hw ⊢
  have hB_15 : ∀ (m_am : Pic) (c_ac : Pic) (h_ah : Pic) (t_an : Pic) (e_an : Pic) (rs : Nat → Option Q4), b_X8_poke_15 s_as_ p_an z_an x1 x2 x3  m_am c_ac h_ah t_an e_an rs = some out → ∀ (ads : Nat → Nat → Nat) (H : Heap) (locs : List Loc), Wd G A s H locs (mO G am as_ ar ac an ath ah m_am ++ (sO G as_ s_as_ ++ (cO G ac c_ac ++ (hO G ah (rgA ads rs) h_ah ++ (tO G an t_an ++ (pO G an p_an ++ (zO G an z_an ++ (eO G an e_an ++ (kO G ads rs ++ []))))))))) → ∀ ls : Array Slot, lv_has ls 5 [(0, .ref (am 99))] → W p l e ({ frames := 5, cells := 19, slots := 1368, locals := 117 }) s m [.ref (am 99), .int x1, .int x2, .int x3].toArray below meth c H locs 0 0 (MQ below (AnsK G out.1 A (fun ads => (mO G am as_ ar ac an ath ah out.2.1 ++ (sO G as_ s_as_ ++ (cO G ac out.2.2.1 ++ (hO G ah (rgA ads out.2.2.2.2.2.2) out.2.2.2.1 ++ (tO G an out.2.2.2.2.1 ++ (pO G an p_an ++ (zO G an z_an ++ (eO G an out.2.2.2.2.2.1 ++ (kO G ads out.2.2.2.2.2.2 ++ []))))))))))) [.ref (am 99), .int x1, .int x2, .int x3].toArray s 19 1368 A) (F0 m 15 ls []) := by
    intro m_am c_ac h_ah t_an e_an rs hf ads H locs hw ls hl
    unfold b_X8_poke_15 at hf
    refine r_aload0 C hl 0 rfl dX8_poke_15 ?_
    refine lv_iconst (v := 1) C.1 C.2.1 dX8_poke_16 (by decide) ?_
    obtain ⟨u2, e2, hf⟩ := bx hf
    refine r_callVi (ws' := (mO G am as_ ar ac an ath ah u2.2 ++ (sO G as_ s_as_ ++ (cO G ac c_ac ++ (hO G ah (rgA ads rs) h_ah ++ (tO G an t_an ++ (pO G an p_an ++ (zO G an z_an ++ (eO G an e_an ++ (kO G ads rs ++ [])))))))))) (As := [.int 1]) (rest := []) C hw hl.1 kX8_refuse ml_X8_63 (c_X8_refuse l G am as_ ar ac an ath ah _ m_am 1 u2 e2) (CutX.take mO_f CutX.none) _ (gx_h mO_o) rfl ⟨rfl, rfl⟩ ⟨Nat.le_of_ble_eq_true rfl, Nat.le_of_ble_eq_true rfl⟩ rfl ⟨Nat.le_of_ble_eq_true rfl, Nat.le_of_ble_eq_true rfl⟩ rfl (Nat.le_of_ble_eq_true rfl) dX8_poke_17 (fun H locs hw => ?_)
    refine W.widen (k := 19) (n := 1368) (Nat.le_of_ble_eq_true rfl) (Nat.le_of_ble_eq_true rfl) ?_
    exact fin_iK C hw (Option.some.inj hf) (fun o => o.1) (fun o ads => (mO G am as_ ar ac an ath ah o.2.1 ++ (sO G as_ s_as_ ++ (cO G ac o.2.2.1 ++ (hO G ah (rgA ads o.2.2.2.2.2.2) o.2.2.2.1 ++ (tO G an o.2.2.2.2.1 ++ (pO G an p_an ++ (zO G an z_an ++ (eO G an o.2.2.2.2.2.1 ++ (kO G ads o.2.2.2.2.2.2 ++ [])))))))))) ads rfl rfl dX8_poke_20
  have hB_31 : ∀ (m_am : Pic) (c_ac : Pic) (h_ah : Pic) (t_an : Pic) (e_an : Pic) (rs : Nat → Option Q4), b_X8_poke_31 s_as_ p_an z_an x1 x2 x3  m_am c_ac h_ah t_an e_an rs = some out → ∀ (ads : Nat → Nat → Nat) (H : Heap) (locs : List Loc), Wd G A s H locs (mO G am as_ ar ac an ath ah m_am ++ (sO G as_ s_as_ ++ (cO G ac c_ac ++ (hO G ah (rgA ads rs) h_ah ++ (tO G an t_an ++ (pO G an p_an ++ (zO G an z_an ++ (eO G an e_an ++ (kO G ads rs ++ []))))))))) → ∀ ls : Array Slot, lv_has ls 5 [(0, .ref (am 99))] → W p l e ({ frames := 5, cells := 19, slots := 1368, locals := 117 }) s m [.ref (am 99), .int x1, .int x2, .int x3].toArray below meth c H locs 0 0 (MQ below (AnsK G out.1 A (fun ads => (mO G am as_ ar ac an ath ah out.2.1 ++ (sO G as_ s_as_ ++ (cO G ac out.2.2.1 ++ (hO G ah (rgA ads out.2.2.2.2.2.2) out.2.2.2.1 ++ (tO G an out.2.2.2.2.1 ++ (pO G an p_an ++ (zO G an z_an ++ (eO G an out.2.2.2.2.2.1 ++ (kO G ads out.2.2.2.2.2.2 ++ []))))))))))) [.ref (am 99), .int x1, .int x2, .int x3].toArray s 19 1368 A) (F0 m 31 ls []) := by
    intro m_am c_ac h_ah t_an e_an rs hf ads H locs hw ls hl
    unfold b_X8_poke_31 at hf
    refine r_aload0 C hl 0 rfl dX8_poke_31 ?_
    refine lv_iconst (v := 2) C.1 C.2.1 dX8_poke_32 (by decide) ?_
    obtain ⟨u4, e4, hf⟩ := bx hf
    refine r_callVi (ws' := (mO G am as_ ar ac an ath ah u4.2 ++ (sO G as_ s_as_ ++ (cO G ac c_ac ++ (hO G ah (rgA ads rs) h_ah ++ (tO G an t_an ++ (pO G an p_an ++ (zO G an z_an ++ (eO G an e_an ++ (kO G ads rs ++ [])))))))))) (As := [.int 2]) (rest := []) C hw hl.1 kX8_refuse ml_X8_63 (c_X8_refuse l G am as_ ar ac an ath ah _ m_am 2 u4 e4) (CutX.take mO_f CutX.none) _ (gx_h mO_o) rfl ⟨rfl, rfl⟩ ⟨Nat.le_of_ble_eq_true rfl, Nat.le_of_ble_eq_true rfl⟩ rfl ⟨Nat.le_of_ble_eq_true rfl, Nat.le_of_ble_eq_true rfl⟩ rfl (Nat.le_of_ble_eq_true rfl) dX8_poke_33 (fun H locs hw => ?_)
    refine W.widen (k := 19) (n := 1368) (Nat.le_of_ble_eq_true rfl) (Nat.le_of_ble_eq_true rfl) ?_
    exact fin_iK C hw (Option.some.inj hf) (fun o => o.1) (fun o ads => (mO G am as_ ar ac an ath ah o.2.1 ++ (sO G as_ s_as_ ++ (cO G ac o.2.2.1 ++ (hO G ah (rgA ads o.2.2.2.2.2.2) o.2.2.2.1 ++ (tO G an o.2.2.2.2.1 ++ (pO G an p_an ++ (zO G an z_an ++ (eO G an o.2.2.2.2.2.1 ++ (kO G ads o.2.2.2.2.2.2 ++ [])))))))))) ads rfl rfl dX8_poke_36
  unfold f_X8_poke at hf
  refine r_aload0 C hl 0 rfl dX8_poke_0 ?_
  refine r_iload0 C hl 1 rfl dX8_poke_1 ?_
  obtain ⟨u1, e1, hf⟩ := bx hf
  refine r_callVi (ws' := (mO G am as_ ar ac an ath ah m_am ++ (sO G as_ s_as_ ++ (cO G ac c_ac ++ (hO G ah (rgA ads rs) h_ah ++ (tO G an t_an ++ (pO G an p_an ++ (zO G an z_an ++ (eO G an e_an ++ (kO G ads rs ++ [])))))))))) (As := [.int x1]) (rest := []) C hw hl.1 kX8_noData ml_X8_141 (c_X8_noData l G am as_ ar ac an ath ah _ m_am s_as_ x1 u1 e1) (CutX.take mO_f (CutX.take sO_f CutX.none)) _ (gx_h mO_o) rfl ⟨rfl, rfl⟩ ⟨Nat.le_of_ble_eq_true rfl, Nat.le_of_ble_eq_true rfl⟩ rfl ⟨Nat.le_of_ble_eq_true rfl, Nat.le_of_ble_eq_true rfl⟩ rfl (Nat.le_of_ble_eq_true rfl) dX8_poke_2 (fun H locs hw => ?_)
  refine lv_if_ne (tgt := 15) C.1 C.2.1 dX8_poke_5 (by decide) (fun hc => ?_) (fun hc => ?_)
  · replace hf := ifn hf hc
    exact hB_15  m_am c_ac h_ah t_an e_an rs hf _ _ _ hw _ (lv_sub hl [0] rfl)
  · replace hf := ifp hf hc
    refine r_iload0 C hl 2 rfl dX8_poke_8 ?_
    obtain ⟨u3, e3, hf⟩ := bx hf
    refine r_callSi (ws' := (mO G am as_ ar ac an ath ah m_am ++ (sO G as_ s_as_ ++ (cO G ac c_ac ++ (hO G ah (rgA ads rs) h_ah ++ (tO G an t_an ++ (pO G an p_an ++ (zO G an z_an ++ (eO G an e_an ++ (kO G ads rs ++ [])))))))))) (As := [.int x2]) (rest := []) C hw hl.1 kX8_noCell ml_X8_145 (c_X8_noCell l G _ x2 u3 e3) CutX.none ⟨rfl, rfl⟩ ⟨Nat.le_of_ble_eq_true rfl, Nat.le_of_ble_eq_true rfl⟩ rfl ⟨Nat.le_of_ble_eq_true rfl, Nat.le_of_ble_eq_true rfl⟩ rfl (Nat.le_of_ble_eq_true rfl) dX8_poke_9 (fun H locs hw => ?_)
    refine lv_if_eq (tgt := 21) C.1 C.2.1 dX8_poke_12 (by decide) (fun hc => ?_) (fun hc => ?_)
    · replace hf := ifp hf hc
      refine r_iload0 C hl 3 rfl dX8_poke_21 ?_
      refine lv_if_lt (tgt := 31) C.1 C.2.1 dX8_poke_22 (by decide) (fun hc => ?_) (fun hc => ?_)
      · replace hf := ifp hf hc
        exact hB_31  m_am c_ac h_ah t_an e_an rs hf _ _ _ hw _ (lv_sub hl [0] rfl)
      · replace hf := ifn hf hc
        refine r_iload0 C hl 3 rfl dX8_poke_25 ?_
        refine lv_bipush (v := 99) C.1 C.2.1 dX8_poke_26 (by decide) ?_
        refine lv_icmp_le (tgt := 37) C.1 C.2.1 dX8_poke_28 (by decide) (fun hc => ?_) (fun hc => ?_)
        · replace hf := ifp hf hc
          refine r_aload0 C hl 0 rfl dX8_poke_37 ?_
          refine r_get C hw _ (gx_h mO_o) 11 fl_X8_51 rfl dX8_poke_38 ?_
          refine r_aload0 C hl 0 rfl dX8_poke_41 ?_
          refine r_get C hw _ (gx_h mO_o) 9 fl_X8_37 rfl dX8_poke_42 ?_
          obtain ⟨u5, e5, hf⟩ := bx hf
          refine r_keep (wr := mO G am as_ ar ac an ath ah m_am ++ (sO G as_ s_as_ ++ (cO G ac c_ac ++ ([])))) C hq (by simpa only [kW, List.append_assoc, List.nil_append, List.append_nil] using hw) hl.1 ml_X8_324 (c_X2_keep l G ah an ads _ h_ah rs t_an p_an z_an e_an u5 e5) ⟨Nat.le_of_ble_eq_true rfl, Nat.le_of_ble_eq_true rfl⟩ ⟨Nat.le_of_ble_eq_true rfl, Nat.le_of_ble_eq_true rfl⟩ (Nat.le_of_ble_eq_true rfl) dX8_poke_45 (fun ads5 H locs hw => ?_)
          have hw : Wd G A s H locs (mO G am as_ ar ac an ath ah m_am ++ (sO G as_ s_as_ ++ (cO G ac c_ac ++ (hO G ah (rgA ads5 u5.2) u5.1 ++ (tO G an t_an ++ (pO G an p_an ++ (zO G an z_an ++ (eO G an e_an ++ (kO G ads5 u5.2 ++ []))))))))) := by simpa only [kW, List.append_assoc, List.nil_append, List.append_nil] using hw
          refine r_aload0 C hl 0 rfl dX8_poke_48 ?_
          refine r_get C hw _ (gx_h mO_o) 9 fl_X8_37 rfl dX8_poke_49 ?_
          refine r_get C hw _ (gx_t (gx_t (gx_t (gx_t (gx_h tO_o))))) 0 fl_X8_148 rfl dX8_poke_52 ?_
          refine r_iload0 C hl 1 rfl dX8_poke_55 ?_
          refine lv_bipush (v := 16) C.1 C.2.1 dX8_poke_56 (by decide) ?_
          refine lv_imul C.1 C.2.1 dX8_poke_58 ?_
          refine r_iload0 C hl 2 rfl dX8_poke_59 ?_
          refine lv_iadd C.1 C.2.1 dX8_poke_60 ?_
          obtain ⟨v6_, e6, hf⟩ := bx hf
          refine r_iald C hw _ (gx_t (gx_t (gx_t (gx_t (gx_t (gx_t (gx_t (gx_h eO_g0)))))))) e6 dX8_poke_61 ?_
          refine r_istore C hl [(4, .int v6_), (0, .ref (am 99)), (1, .int x1), (2, .int x2), (3, .int x3)] (by decide) rfl dX8_poke_62 (fun ls hl => ?_)
          refine r_aload0 C hl 1 rfl dX8_poke_64 ?_
          refine r_get C hw _ (gx_h mO_o) 9 fl_X8_37 rfl dX8_poke_65 ?_
          refine r_get C hw _ (gx_t (gx_t (gx_t (gx_t (gx_h tO_o))))) 0 fl_X8_148 rfl dX8_poke_68 ?_
          refine r_iload0 C hl 2 rfl dX8_poke_71 ?_
          refine lv_bipush (v := 16) C.1 C.2.1 dX8_poke_72 (by decide) ?_
          refine lv_imul C.1 C.2.1 dX8_poke_74 ?_
          refine r_iload0 C hl 3 rfl dX8_poke_75 ?_
          refine lv_iadd C.1 C.2.1 dX8_poke_76 ?_
          refine r_iload0 C hl 4 rfl dX8_poke_77 ?_
          obtain ⟨e_an7, e7, hf⟩ := bx hf
          refine r_iast C hw _ (gx_t (gx_t (gx_t (gx_t (gx_t (gx_t (gx_t (gx_h eO_g0)))))))) e7 (mO G am as_ ar ac an ath ah m_am ++ (sO G as_ s_as_ ++ (cO G ac c_ac ++ (hO G ah (rgA ads5 u5.2) u5.1 ++ (tO G an t_an ++ (pO G an p_an ++ (zO G an z_an ++ (eO G an e_an7 ++ (kO G ads5 u5.2 ++ []))))))))) (fun h => (sx_t (sx_t (sx_t (sx_t (sx_t (sx_t (sx_t (sx_h eO_g0 (eO_s0 h)))))))))) dX8_poke_78 (fun H locs hw => ?_)
          refine r_aload0 C hl 1 rfl dX8_poke_79 ?_
          refine r_get C hw _ (gx_h mO_o) 9 fl_X8_37 rfl dX8_poke_80 ?_
          refine r_iload0 C hl 2 rfl dX8_poke_83 ?_
          refine r_aload0 C hl 1 rfl dX8_poke_84 ?_
          refine r_get C hw _ (gx_h mO_o) 8 fl_X8_30 rfl dX8_poke_85 ?_
          obtain ⟨u8, e8, hf⟩ := bx hf
          refine r_callVv (ws' := (mO G am as_ ar ac an ath ah m_am ++ (sO G as_ s_as_ ++ (cO G ac u8.1 ++ (hO G ah (rgA ads5 u5.2) u5.1 ++ (tO G an u8.2 ++ (pO G an p_an ++ (zO G an z_an ++ (eO G an e_an7 ++ (kO G ads5 u5.2 ++ [])))))))))) (As := [.int x1, .ref (ac 99)]) (rest := []) C hw hl.1 kX6_measure ml_X8_345 (c_X6_measure l G an ac _ c_ac t_an e_an7 x1 u8 e8) (CutX.skip (CutX.skip (CutX.take cO_f (CutX.skip (CutX.take tO_f (CutX.skip (CutX.skip (CutX.take eO_f CutX.none)))))))) _ (gx_t (gx_t (gx_t (gx_t (gx_h tO_o))))) rfl ⟨rfl, rfl⟩ ⟨Nat.le_of_ble_eq_true rfl, Nat.le_of_ble_eq_true rfl⟩ rfl ⟨Nat.le_of_ble_eq_true rfl, Nat.le_of_ble_eq_true rfl⟩ rfl (Nat.le_of_ble_eq_true rfl) dX8_poke_88 (fun H locs hw => ?_)
          refine r_aload0 C hl 1 rfl dX8_poke_91 ?_
          refine r_iload C hl 0 rfl dX8_poke_92 ?_
          obtain ⟨u9, e9, hf⟩ := bx hf
          refine r_callVi (ws' := (mO G am as_ ar ac an ath ah u9.2 ++ (sO G as_ s_as_ ++ (cO G ac u8.1 ++ (hO G ah (rgA ads5 u5.2) u5.1 ++ (tO G an u8.2 ++ (pO G an p_an ++ (zO G an z_an ++ (eO G an e_an7 ++ (kO G ads5 u5.2 ++ [])))))))))) (As := [.int v6_]) (rest := []) C hw hl.1 kX8_answer ml_X8_99 (c_X8_answer l G am as_ ar ac an ath ah _ m_am v6_ u9 e9) (CutX.take mO_f CutX.none) _ (gx_h mO_o) rfl ⟨rfl, rfl⟩ ⟨Nat.le_of_ble_eq_true rfl, Nat.le_of_ble_eq_true rfl⟩ rfl ⟨Nat.le_of_ble_eq_true rfl, Nat.le_of_ble_eq_true rfl⟩ rfl (Nat.le_of_ble_eq_true rfl) dX8_poke_94 (fun H locs hw => ?_)
          refine W.widen (k := 19) (n := 1368) (Nat.le_of_ble_eq_true rfl) (Nat.le_of_ble_eq_true rfl) ?_
          exact fin_iK C hw (Option.some.inj hf) (fun o => o.1) (fun o ads => (mO G am as_ ar ac an ath ah o.2.1 ++ (sO G as_ s_as_ ++ (cO G ac o.2.2.1 ++ (hO G ah (rgA ads o.2.2.2.2.2.2) o.2.2.2.1 ++ (tO G an o.2.2.2.2.1 ++ (pO G an p_an ++ (zO G an z_an ++ (eO G an o.2.2.2.2.2.1 ++ (kO G ads o.2.2.2.2.2.2 ++ [])))))))))) ads5 rfl rfl dX8_poke_97
        · replace hf := ifn hf hc
          exact hB_31  m_am c_ac h_ah t_an e_an rs hf _ _ _ hw _ (lv_sub hl [0] rfl)
    · replace hf := ifn hf hc
      exact hB_15  m_am c_ac h_ah t_an e_an rs hf _ _ _ hw _ (lv_sub hl [0] rfl)
