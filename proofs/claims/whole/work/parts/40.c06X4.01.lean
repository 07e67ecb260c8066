set_option maxHeartbeats 4000000 in
set_option maxRecDepth 100000 in
theorem c_X4_readOp (l : Launch) (G : GG) (ar : Nat → Nat) (ab : Nat → Nat) (at_ : Nat → Nat) (sz : Nat) (r_ar : Pic) (b_ab : Pic) (s_at_ : Pic) (x1 : Int32) (out : Int32 × Pic × Pic) (hf : f_X4_readOp r_ar b_ab s_at_ x1 = some out) : Met l yX4_readOp (.code yX4_readOp cX4_readOp 4 (some .boolean) :: BT) ({ frames := 3, cells := 0, slots := 0, locals := 67 }) (va_Pc [.ref (ar 99), .int x1] (PreW G sz (rO G ar ab at_ r_ar ++ (bO G ab b_ab ++ (sO G at_ s_at_ ++ []))))) (Ans G out.1 (va_A (rO G ar ab at_ r_ar ++ (bO G ab b_ab ++ (sO G at_ s_at_ ++ []))) sz) (rO G ar ab at_ out.2.1 ++ (bO G ab b_ab ++ (sO G at_ out.2.2 ++ [])))) 0 0 (va_A (rO G ar ab at_ r_ar ++ (bO G ab b_ab ++ (sO G at_ s_at_ ++ []))) sz) := by
  refine Met.into (by decide) (Nat.le_of_ble_eq_true rfl) ?_
  intro p e s m below meth c C hsz ls hl hw
  have hl : lv_has ls 4 [(0, .ref (ar 99)), (1, .int x1)] := hl
  clear hsz
  generalize va_A (rO G ar ab at_ r_ar ++ (bO G ab b_ab ++ (sO G at_ s_at_ ++ []))) sz = A at hw ⊢
  have hB_46 : ∀ (r_ar : Pic) (s_at_ : Pic) (v2 : Int32) (v3 : Int32), b_X4_readOp_46 b_ab x1  r_ar s_at_ v2 v3 = some out → ∀ (H : Heap) (locs : List Loc), Wd G A s H locs (rO G ar ab at_ r_ar ++ (bO G ab b_ab ++ (sO G at_ s_at_ ++ []))) → ∀ ls : Array Slot, lv_has ls 4 [(0, .ref (ar 99)), (1, .int x1), (2, .int v2), (3, .int v3)] → W p l e ({ frames := 3, cells := 0, slots := 0, locals := 67 }) s m [.ref (ar 99), .int x1].toArray below meth c H locs 0 0 (MQ below (Ans G out.1 A (rO G ar ab at_ out.2.1 ++ (bO G ab b_ab ++ (sO G at_ out.2.2 ++ [])))) [.ref (ar 99), .int x1].toArray s 0 0 A) (F0 m 46 ls []) := by
    intro r_ar s_at_ v2 v3 hf H locs hw ls hl
    unfold b_X4_readOp_46 at hf
    refine r_aload0 C hl 0 rfl dX4_readOp_46 ?_
    obtain ⟨u3, e3, hf⟩ := bx hf
    refine r_callVi (ws' := (rO G ar ab at_ r_ar ++ (bO G ab b_ab ++ (sO G at_ s_at_ ++ [])))) (As := []) (rest := []) C hw hl.1 kX4_isLineEnd ml_X4_120 (c_X4_isLineEnd l G ar ab at_ _ r_ar u3 e3) (CutX.take rO_f2 CutX.none) _ (gx_h rO_o) rfl ⟨rfl, rfl⟩ ⟨Nat.le_of_ble_eq_true rfl, Nat.le_of_ble_eq_true rfl⟩ rfl ⟨Nat.zero_le _, Nat.zero_le _⟩ rfl (Nat.le_of_ble_eq_true rfl) dX4_readOp_47 (fun H locs hw => ?_)
    refine lv_if_ne (tgt := 59) C.1 C.2.1 dX4_readOp_50 (by decide) (fun hc => ?_) (fun hc => ?_)
    · replace hf := ifn hf hc
      refine r_aload0 C hl 0 rfl dX4_readOp_59 ?_
      refine r_get C hw _ (gx_h rO_o) 8 fl_X4_18 rfl dX4_readOp_60 ?_
      refine r_iload0 C hl 1 rfl dX4_readOp_63 ?_
      refine r_iload0 C hl 2 rfl dX4_readOp_64 ?_
      refine r_iload0 C hl 3 rfl dX4_readOp_65 ?_
      obtain ⟨u4, e4, hf⟩ := bx hf
      refine r_callVv (ws' := (rO G ar ab at_ r_ar ++ (bO G ab b_ab ++ (sO G at_ u4 ++ [])))) (As := [.int x1, .int v2, .int v3]) (rest := []) C hw hl.1 kX5_addOp ml_X4_123 (c_X5_addOp l G at_ _ s_at_ x1 v2 v3 u4 e4) (CutX.skip (CutX.skip (CutX.take sO_f CutX.none))) _ (gx_t (gx_t (gx_h sO_o))) rfl ⟨rfl, rfl⟩ ⟨Nat.le_of_ble_eq_true rfl, Nat.le_of_ble_eq_true rfl⟩ rfl ⟨Nat.zero_le _, Nat.zero_le _⟩ rfl (Nat.le_of_ble_eq_true rfl) dX4_readOp_66 (fun H locs hw => ?_)
      refine lv_iconst (v := 1) C.1 C.2.1 dX4_readOp_69 (by decide) ?_
      exact fin_z C hw (by decide) (Option.some.inj hf) (fun o => o.1) (fun o => (rO G ar ab at_ o.2.1 ++ (bO G ab b_ab ++ (sO G at_ o.2.2 ++ [])))) rfl rfl dX4_readOp_70
    · replace hf := ifp hf hc
      refine r_aload0 C hl 0 rfl dX4_readOp_53 ?_
      refine lv_iconst (v := 1) C.1 C.2.1 dX4_readOp_54 (by decide) ?_
      obtain ⟨u5, e5, hf⟩ := bx hf
      refine r_callVi (ws' := (rO G ar ab at_ u5.2 ++ (bO G ab b_ab ++ (sO G at_ s_at_ ++ [])))) (As := [.int 1]) (rest := []) C hw hl.1 kX4_fail ml_X4_64 (c_X4_fail l G ar ab at_ _ r_ar 1 u5 e5) (CutX.take rO_f2 CutX.none) _ (gx_h rO_o) rfl ⟨rfl, rfl⟩ ⟨Nat.le_of_ble_eq_true rfl, Nat.le_of_ble_eq_true rfl⟩ rfl ⟨Nat.zero_le _, Nat.zero_le _⟩ rfl (Nat.le_of_ble_eq_true rfl) dX4_readOp_55 (fun H locs hw => ?_)
      obtain ⟨z6_, e6, hf⟩ := bx hf
      obtain rfl := okZ_in e6
      exact fin_z C hw e6 (Option.some.inj hf) (fun o => o.1) (fun o => (rO G ar ab at_ o.2.1 ++ (bO G ab b_ab ++ (sO G at_ o.2.2 ++ [])))) rfl rfl dX4_readOp_58
  unfold f_X4_readOp at hf
  refine r_aload0 C hl 0 rfl dX4_readOp_0 ?_
  obtain ⟨u1, e1, hf⟩ := bx hf
  refine r_callVv (ws' := (rO G ar ab at_ u1 ++ (bO G ab b_ab ++ (sO G at_ s_at_ ++ [])))) (As := []) (rest := []) C hw hl.1 kX4_advance ml_X4_45 (c_X4_advance l G ar ab at_ _ r_ar b_ab u1 e1) (CutX.take rO_f2 (CutX.take bO_f CutX.none)) _ (gx_h rO_o) rfl ⟨rfl, rfl⟩ ⟨Nat.le_of_ble_eq_true rfl, Nat.le_of_ble_eq_true rfl⟩ rfl ⟨Nat.zero_le _, Nat.zero_le _⟩ rfl (Nat.le_of_ble_eq_true rfl) dX4_readOp_1 (fun H locs hw => ?_)
  refine r_aload0 C hl 0 rfl dX4_readOp_4 ?_
  refine lv_iconst (v := 0) C.1 C.2.1 dX4_readOp_5 (by decide) ?_
  refine lv_bipush (v := 29) C.1 C.2.1 dX4_readOp_6 (by decide) ?_
  obtain ⟨u2, e2, hf⟩ := bx hf
  refine r_callVi (ws' := (rO G ar ab at_ u2.2 ++ (bO G ab b_ab ++ (sO G at_ s_at_ ++ [])))) (As := [.int 0, .int 29]) (rest := []) C hw hl.1 kX4_takeWhole ml_X4_104 (c_X4_takeWhole l G ar ab at_ _ u1 b_ab 0 29 u2 e2) (CutX.take rO_f2 (CutX.take bO_f CutX.none)) _ (gx_h rO_o) rfl ⟨rfl, rfl⟩ ⟨Nat.le_of_ble_eq_true rfl, Nat.le_of_ble_eq_true rfl⟩ rfl ⟨Nat.zero_le _, Nat.zero_le _⟩ rfl (Nat.le_of_ble_eq_true rfl) dX4_readOp_8 (fun H locs hw => ?_)
  refine r_istore0 C hl [(2, .int u2.1), (0, .ref (ar 99)), (1, .int x1)] (by decide) rfl dX4_readOp_11 (fun ls hl => ?_)
  refine r_iload0 C hl 0 rfl dX4_readOp_12 ?_
  refine lv_if_ge (tgt := 18) C.1 C.2.1 dX4_readOp_13 (by decide) (fun hc => ?_) (fun hc => ?_)
  · replace hf := ifp hf hc
    refine lv_bipush (v := (-2)) C.1 C.2.1 dX4_readOp_18 (by decide) ?_
    refine r_istore0 C hl [(3, .int (-2)), (2, .int u2.1), (0, .ref (ar 99)), (1, .int x1)] (by decide) rfl dX4_readOp_20 (fun ls hl => ?_)
    refine r_iload0 C hl 3 rfl dX4_readOp_21 ?_
    refine lv_if_ne (tgt := 46) C.1 C.2.1 dX4_readOp_22 (by decide) (fun hc => ?_) (fun hc => ?_)
    · replace hf := ifn hf hc
      exact hB_46  u2.2 s_at_ u2.1 (-2) hf _ _ hw _ (lv_sub hl [2, 3, 1, 0] rfl)
    · replace hf := ifp hf hc
      refine r_aload0 C hl 2 rfl dX4_readOp_25 ?_
      refine lv_iconst (v := 0) C.1 C.2.1 dX4_readOp_26 (by decide) ?_
      refine r_aload0 C hl 2 rfl dX4_readOp_27 ?_
      refine r_get C hw _ (gx_h rO_o) 8 fl_X4_18 rfl dX4_readOp_28 ?_
      refine r_get C hw _ (gx_t (gx_t (gx_h sO_o))) 3 fl_X4_73 rfl dX4_readOp_31 ?_
      refine lv_iconst (v := 1) C.1 C.2.1 dX4_readOp_34 (by decide) ?_
      refine lv_isub C.1 C.2.1 dX4_readOp_35 ?_
      obtain ⟨u7, e7, hf⟩ := bx hf
      refine r_callVi (ws' := (rO G ar ab at_ u7.2 ++ (bO G ab b_ab ++ (sO G at_ s_at_ ++ [])))) (As := [.int 0, .int ((gS s_at_ 3) - 1)]) (rest := []) C hw hl.1 kX4_takeWhole ml_X4_104 (c_X4_takeWhole l G ar ab at_ _ u2.2 b_ab 0 ((gS s_at_ 3) - 1) u7 e7) (CutX.take rO_f2 (CutX.take bO_f CutX.none)) _ (gx_h rO_o) rfl ⟨rfl, rfl⟩ ⟨Nat.le_of_ble_eq_true rfl, Nat.le_of_ble_eq_true rfl⟩ rfl ⟨Nat.zero_le _, Nat.zero_le _⟩ rfl (Nat.le_of_ble_eq_true rfl) dX4_readOp_36 (fun H locs hw => ?_)
      refine r_istore0 C hl [(3, .int u7.1), (2, .int u2.1), (0, .ref (ar 99)), (1, .int x1)] (by decide) rfl dX4_readOp_39 (fun ls hl => ?_)
      refine r_iload0 C hl 0 rfl dX4_readOp_40 ?_
      refine lv_if_ge (tgt := 46) C.1 C.2.1 dX4_readOp_41 (by decide) (fun hc => ?_) (fun hc => ?_)
      · replace hf := ifp hf hc
        exact hB_46  u7.2 s_at_ u2.1 u7.1 hf _ _ hw _ (lv_sub hl [2, 3, 1, 0] rfl)
      · replace hf := ifn hf hc
        refine lv_iconst (v := 0) C.1 C.2.1 dX4_readOp_44 (by decide) ?_
        exact fin_z C hw (by decide) (Option.some.inj hf) (fun o => o.1) (fun o => (rO G ar ab at_ o.2.1 ++ (bO G ab b_ab ++ (sO G at_ o.2.2 ++ [])))) rfl rfl dX4_readOp_45
  · replace hf := ifn hf hc
    refine lv_iconst (v := 0) C.1 C.2.1 dX4_readOp_16 (by decide) ?_
    exact fin_z C hw (by decide) (Option.some.inj hf) (fun o => o.1) (fun o => (rO G ar ab at_ o.2.1 ++ (bO G ab b_ab ++ (sO G at_ o.2.2 ++ [])))) rfl rfl dX4_readOp_17
set_option maxHeartbeats 4000000 in
set_option maxRecDepth 100000 in
theorem c_X4_readCells (l : Launch) (G : GG) (K : SK) (ar : Nat → Nat) (ab : Nat → Nat) (at_ : Nat → Nat) (sz : Nat) (r_ar : Pic) (b_ab : Pic) (s_at_ : Pic) (x1 : Int32) (out : Int32 × Pic × Pic) (hf : f_X4_readCells r_ar b_ab s_at_ x1 = some out) : Met l yX4_readCells (.code yX4_readCells cX4_readCells 5 (some .int) :: BT) ({ frames := 5, cells := 0, slots := 0, locals := 107 }) (va_Pc [.ref (ar 99), .int x1] (PreT G K sz (rO G ar ab at_ r_ar ++ (bO G ab b_ab ++ (sO G at_ s_at_ ++ []))))) (Ans G out.1 (va_A (rO G ar ab at_ r_ar ++ (bO G ab b_ab ++ (sO G at_ s_at_ ++ []))) sz) (rO G ar ab at_ out.2.1 ++ (bO G ab b_ab ++ (sO G at_ out.2.2 ++ [])))) 0 0 (va_A (rO G ar ab at_ r_ar ++ (bO G ab b_ab ++ (sO G at_ s_at_ ++ []))) sz) := by
  refine Met.intoT (by decide) (Nat.le_of_ble_eq_true rfl) ?_
  intro p e s m below meth c C hsz hq ls hl hw
  have hl : lv_has ls 5 [(0, .ref (ar 99)), (1, .int x1)] := hl
  clear hsz
  generalize va_A (rO G ar ab at_ r_ar ++ (bO G ab b_ab ++ (sO G at_ s_at_ ++ []))) sz = A at hw hq ⊢
  have hB_68 : ∀ (r_ar : Pic) (s_at_ : Pic) (v2 : Int32) (v3 : Int32) (v4 : Int32), b_X4_readCells_68 b_ab x1  r_ar s_at_ v2 v3 v4 = some out → ∀ (H : Heap) (locs : List Loc), Wd G A s H locs (rO G ar ab at_ r_ar ++ (bO G ab b_ab ++ (sO G at_ s_at_ ++ []))) → ∀ ls : Array Slot, lv_has ls 5 [(0, .ref (ar 99)), (1, .int x1), (2, .int v2), (3, .int v3), (4, .int v4)] → W p l e ({ frames := 5, cells := 0, slots := 0, locals := 107 }) s m [.ref (ar 99), .int x1].toArray below meth c H locs 0 0 (MQ below (Ans G out.1 A (rO G ar ab at_ out.2.1 ++ (bO G ab b_ab ++ (sO G at_ out.2.2 ++ [])))) [.ref (ar 99), .int x1].toArray s 0 0 A) (F0 m 68 ls []) := by
    intro r_ar s_at_ v2 v3 v4 hf H locs hw ls hl
    unfold b_X4_readCells_68 at hf
    refine r_iload0 C hl 1 rfl dX4_readCells_68 ?_
    refine r_iload C hl 4 rfl dX4_readCells_69 ?_
    refine lv_iadd C.1 C.2.1 dX4_readCells_71 ?_
    refine lv_bipush (v := 16) C.1 C.2.1 dX4_readCells_72 (by decide) ?_
    refine lv_icmp_le (tgt := 83) C.1 C.2.1 dX4_readCells_74 (by decide) (fun hc => ?_) (fun hc => ?_)
    · replace hf := ifp hf hc
      refine r_aload0 C hl 0 rfl dX4_readCells_83 ?_
      refine r_get C hw _ (gx_h rO_o) 8 fl_X4_18 rfl dX4_readCells_84 ?_
      refine r_iload0 C hl 3 rfl dX4_readCells_87 ?_
      refine r_iload0 C hl 1 rfl dX4_readCells_88 ?_
      refine r_iload C hl 4 rfl dX4_readCells_89 ?_
      obtain ⟨u3, e3, hf⟩ := bx hf
      refine r_callVv (ws' := (rO G ar ab at_ r_ar ++ (bO G ab b_ab ++ (sO G at_ u3 ++ [])))) (As := [.int v3, .int x1, .int v4]) (rest := []) C hw hl.1 kX5_addCells ml_X4_139 (c_X5_addCells l G at_ _ s_at_ v3 x1 v4 u3 e3) (CutX.skip (CutX.skip (CutX.take sO_f CutX.none))) _ (gx_t (gx_t (gx_h sO_o))) rfl ⟨rfl, rfl⟩ ⟨Nat.le_of_ble_eq_true rfl, Nat.le_of_ble_eq_true rfl⟩ rfl ⟨Nat.zero_le _, Nat.zero_le _⟩ rfl (Nat.le_of_ble_eq_true rfl) dX4_readCells_91 (fun H locs hw => ?_)
      refine r_iload0 C hl 1 rfl dX4_readCells_94 ?_
      refine r_iload C hl 4 rfl dX4_readCells_95 ?_
      refine lv_iadd C.1 C.2.1 dX4_readCells_97 ?_
      exact fin_i C hw (Option.some.inj hf) (fun o => o.1) (fun o => (rO G ar ab at_ o.2.1 ++ (bO G ab b_ab ++ (sO G at_ o.2.2 ++ [])))) rfl rfl dX4_readCells_98
    · replace hf := ifn hf hc
      refine r_aload0 C hl 0 rfl dX4_readCells_77 ?_
      refine r_iload0 C hl 2 rfl dX4_readCells_78 ?_
      obtain ⟨u4, e4, hf⟩ := bx hf
      refine r_callVi (ws' := (rO G ar ab at_ u4.2 ++ (bO G ab b_ab ++ (sO G at_ s_at_ ++ [])))) (As := [.int v2]) (rest := []) C hw hl.1 kX4_tooMany ml_X4_134 (c_X4_tooMany l G ar ab at_ _ r_ar v2 u4 e4) (CutX.take rO_f2 CutX.none) _ (gx_h rO_o) rfl ⟨rfl, rfl⟩ ⟨Nat.le_of_ble_eq_true rfl, Nat.le_of_ble_eq_true rfl⟩ rfl ⟨Nat.zero_le _, Nat.zero_le _⟩ rfl (Nat.le_of_ble_eq_true rfl) dX4_readCells_79 (fun H locs hw => ?_)
      exact fin_i C hw (Option.some.inj hf) (fun o => o.1) (fun o => (rO G ar ab at_ o.2.1 ++ (bO G ab b_ab ++ (sO G at_ o.2.2 ++ [])))) rfl rfl dX4_readCells_82
  unfold f_X4_readCells at hf
  refine r_aload0 C hl 0 rfl dX4_readCells_0 ?_
  refine r_get C hw _ (gx_h rO_o) 3 fl_X4_131 rfl dX4_readCells_1 ?_
  refine r_istore0 C hl [(2, .int (gS r_ar 3)), (0, .ref (ar 99)), (1, .int x1)] (by decide) rfl dX4_readCells_4 (fun ls hl => ?_)
  refine r_aload0 C hl 1 rfl dX4_readCells_5 ?_
  refine lv_iconst (v := 0) C.1 C.2.1 dX4_readCells_6 (by decide) ?_
  refine lv_bipush (v := 99) C.1 C.2.1 dX4_readCells_7 (by decide) ?_
  obtain ⟨u1, e1, hf⟩ := bx hf
  refine r_callVi (ws' := (rO G ar ab at_ u1.2 ++ (bO G ab b_ab ++ (sO G at_ s_at_ ++ [])))) (As := [.int 0, .int 99]) (rest := []) C hw hl.1 kX4_takeWhole ml_X4_104 (c_X4_takeWhole l G ar ab at_ _ r_ar b_ab 0 99 u1 e1) (CutX.take rO_f2 (CutX.take bO_f CutX.none)) _ (gx_h rO_o) rfl ⟨rfl, rfl⟩ ⟨Nat.le_of_ble_eq_true rfl, Nat.le_of_ble_eq_true rfl⟩ rfl ⟨Nat.zero_le _, Nat.zero_le _⟩ rfl (Nat.le_of_ble_eq_true rfl) dX4_readCells_9 (fun H locs hw => ?_)
  refine r_istore0 C hl [(3, .int u1.1), (2, .int (gS r_ar 3)), (0, .ref (ar 99)), (1, .int x1)] (by decide) rfl dX4_readCells_12 (fun ls hl => ?_)
  refine r_iload0 C hl 0 rfl dX4_readCells_13 ?_
  refine lv_if_ge (tgt := 19) C.1 C.2.1 dX4_readCells_14 (by decide) (fun hc => ?_) (fun hc => ?_)
  · replace hf := ifp hf hc
    refine r_iload0 C hl 3 rfl dX4_readCells_19 ?_
    refine lv_bipush (v := 16) C.1 C.2.1 dX4_readCells_20 (by decide) ?_
    refine lv_icmp_lt (tgt := 31) C.1 C.2.1 dX4_readCells_22 (by decide) (fun hc => ?_) (fun hc => ?_)
    · replace hf := ifp hf hc
      refine lv_iconst (v := 1) C.1 C.2.1 dX4_readCells_31 (by decide) ?_
      refine r_istore C hl [(4, .int 1), (3, .int u1.1), (2, .int (gS r_ar 3)), (0, .ref (ar 99)), (1, .int x1)] (by decide) rfl dX4_readCells_32 (fun ls hl => ?_)
      refine r_aload0 C hl 3 rfl dX4_readCells_34 ?_
      refine va_ldcS C.1 C.2.1 C.2.2.2.1 (hq.2.1 5 (by decide)).1 dX4_readCells_35 ?_
      obtain ⟨u2, e2, hf⟩ := bx hf
      refine g_callVi (ws' := (rO G ar ab at_ u1.2 ++ (bO G ab b_ab ++ (sO G at_ s_at_ ++ [])))) (As := [.ref (K.1 5)]) (rest := []) C hw hl.1 kX4_isWord ml_X4_60 (c_X4_isWord l G K ar ab at_ _ u1.2 b_ab 5 (by decide) u2 e2) blindT (CutX.take rO_f2 (CutX.take bO_f CutX.none)) (fun hf U hU hW hp => ⟨hp, hq.pass hw.2.2.2.1 hf hU hW⟩) (va_recv hw.1 hw.2.1 rfl (gx_h rO_o)) ⟨rfl, rfl⟩ ⟨Nat.le_of_ble_eq_true rfl, Nat.le_of_ble_eq_true rfl⟩ rfl ⟨Nat.zero_le _, Nat.zero_le _⟩ rfl (Nat.le_of_ble_eq_true rfl) dX4_readCells_37 (fun H locs hw => ?_)
      refine lv_if_eq (tgt := 68) C.1 C.2.1 dX4_readCells_40 (by decide) (fun hc => ?_) (fun hc => ?_)
      · replace hf := ifp hf hc
        exact hB_68  u1.2 s_at_ (gS r_ar 3) u1.1 1 hf _ _ hw _ (lv_sub hl [3, 4, 2, 1, 0] rfl)
      · replace hf := ifn hf hc
        refine r_aload0 C hl 3 rfl dX4_readCells_43 ?_
        obtain ⟨u5, e5, hf⟩ := bx hf
        refine r_callVv (ws' := (rO G ar ab at_ u5 ++ (bO G ab b_ab ++ (sO G at_ s_at_ ++ [])))) (As := []) (rest := []) C hw hl.1 kX4_advance ml_X4_45 (c_X4_advance l G ar ab at_ _ u1.2 b_ab u5 e5) (CutX.take rO_f2 (CutX.take bO_f CutX.none)) _ (gx_h rO_o) rfl ⟨rfl, rfl⟩ ⟨Nat.le_of_ble_eq_true rfl, Nat.le_of_ble_eq_true rfl⟩ rfl ⟨Nat.zero_le _, Nat.zero_le _⟩ rfl (Nat.le_of_ble_eq_true rfl) dX4_readCells_44 (fun H locs hw => ?_)
        refine r_aload0 C hl 3 rfl dX4_readCells_47 ?_
        refine r_get C hw _ (gx_h rO_o) 3 fl_X4_131 rfl dX4_readCells_48 ?_
        refine r_istore0 C hl [(2, .int (gS u5 3)), (4, .int 1), (3, .int u1.1), (0, .ref (ar 99)), (1, .int x1)] (by decide) rfl dX4_readCells_51 (fun ls hl => ?_)
        refine r_aload0 C hl 3 rfl dX4_readCells_52 ?_
        refine lv_iconst (v := 1) C.1 C.2.1 dX4_readCells_53 (by decide) ?_
        refine lv_bipush (v := 16) C.1 C.2.1 dX4_readCells_54 (by decide) ?_
        obtain ⟨u6, e6, hf⟩ := bx hf
        refine r_callVi (ws' := (rO G ar ab at_ u6.2 ++ (bO G ab b_ab ++ (sO G at_ s_at_ ++ [])))) (As := [.int 1, .int 16]) (rest := []) C hw hl.1 kX4_takeWhole ml_X4_104 (c_X4_takeWhole l G ar ab at_ _ u5 b_ab 1 16 u6 e6) (CutX.take rO_f2 (CutX.take bO_f CutX.none)) _ (gx_h rO_o) rfl ⟨rfl, rfl⟩ ⟨Nat.le_of_ble_eq_true rfl, Nat.le_of_ble_eq_true rfl⟩ rfl ⟨Nat.zero_le _, Nat.zero_le _⟩ rfl (Nat.le_of_ble_eq_true rfl) dX4_readCells_56 (fun H locs hw => ?_)
        refine r_istore C hl [(4, .int u6.1), (2, .int (gS u5 3)), (3, .int u1.1), (0, .ref (ar 99)), (1, .int x1)] (by decide) rfl dX4_readCells_59 (fun ls hl => ?_)
        refine r_iload C hl 0 rfl dX4_readCells_61 ?_
        refine lv_if_ge (tgt := 68) C.1 C.2.1 dX4_readCells_63 (by decide) (fun hc => ?_) (fun hc => ?_)
        · replace hf := ifp hf hc
          exact hB_68  u6.2 s_at_ (gS u5 3) u1.1 u6.1 hf _ _ hw _ (lv_sub hl [3, 4, 1, 2, 0] rfl)
        · replace hf := ifn hf hc
          refine lv_iconst (v := 0) C.1 C.2.1 dX4_readCells_66 (by decide) ?_
          exact fin_i C hw (Option.some.inj hf) (fun o => o.1) (fun o => (rO G ar ab at_ o.2.1 ++ (bO G ab b_ab ++ (sO G at_ o.2.2 ++ [])))) rfl rfl dX4_readCells_67
    · replace hf := ifn hf hc
      refine r_aload0 C hl 2 rfl dX4_readCells_25 ?_
      refine r_iload0 C hl 1 rfl dX4_readCells_26 ?_
      obtain ⟨u7, e7, hf⟩ := bx hf
      refine r_callVi (ws' := (rO G ar ab at_ u7.2 ++ (bO G ab b_ab ++ (sO G at_ s_at_ ++ [])))) (As := [.int (gS r_ar 3)]) (rest := []) C hw hl.1 kX4_tooMany ml_X4_134 (c_X4_tooMany l G ar ab at_ _ u1.2 (gS r_ar 3) u7 e7) (CutX.take rO_f2 CutX.none) _ (gx_h rO_o) rfl ⟨rfl, rfl⟩ ⟨Nat.le_of_ble_eq_true rfl, Nat.le_of_ble_eq_true rfl⟩ rfl ⟨Nat.zero_le _, Nat.zero_le _⟩ rfl (Nat.le_of_ble_eq_true rfl) dX4_readCells_27 (fun H locs hw => ?_)
      exact fin_i C hw (Option.some.inj hf) (fun o => o.1) (fun o => (rO G ar ab at_ o.2.1 ++ (bO G ab b_ab ++ (sO G at_ o.2.2 ++ [])))) rfl rfl dX4_readCells_30
  · replace hf := ifn hf hc
    refine lv_iconst (v := 0) C.1 C.2.1 dX4_readCells_17 (by decide) ?_
    exact fin_i C hw (Option.some.inj hf) (fun o => o.1) (fun o => (rO G ar ab at_ o.2.1 ++ (bO G ab b_ab ++ (sO G at_ o.2.2 ++ [])))) rfl rfl dX4_readCells_18
set_option maxHeartbeats 4000000 in
set_option maxRecDepth 100000 in
theorem c_X4_readData (l : Launch) (G : GG) (K : SK) (ar : Nat → Nat) (ab : Nat → Nat) (at_ : Nat → Nat) (sz : Nat) (r_ar : Pic) (b_ab : Pic) (s_at_ : Pic)  (out : Int32 × Pic × Pic) (hf : f_X4_readData r_ar b_ab s_at_ = some out) : Met l yX4_readData (.code yX4_readData cX4_readData 3 (some .boolean) :: BT) ({ frames := 6, cells := 0, slots := 0, locals := 131 }) (va_Pc [.ref (ar 99)] (PreT G K sz (rO G ar ab at_ r_ar ++ (bO G ab b_ab ++ (sO G at_ s_at_ ++ []))))) (Ans G out.1 (va_A (rO G ar ab at_ r_ar ++ (bO G ab b_ab ++ (sO G at_ s_at_ ++ []))) sz) (rO G ar ab at_ out.2.1 ++ (bO G ab b_ab ++ (sO G at_ out.2.2 ++ [])))) 0 0 (va_A (rO G ar ab at_ r_ar ++ (bO G ab b_ab ++ (sO G at_ s_at_ ++ []))) sz) := by
  refine Met.intoT (by decide) (Nat.le_of_ble_eq_true rfl) ?_
  intro p e s m below meth c C hsz hq ls hl hw
  have hl : lv_has ls 3 [(0, .ref (ar 99))] := hl
  clear hsz
  generalize va_A (rO G ar ab at_ r_ar ++ (bO G ab b_ab ++ (sO G at_ s_at_ ++ []))) sz = A at hw hq ⊢
  have hB_46 : ∀ (r_ar : Pic) (s_at_ : Pic) (v1 : Int32), b_X4_readData_46 b_ab  r_ar s_at_ v1 = some out → ∀ (H : Heap) (locs : List Loc), Wd G A s H locs (rO G ar ab at_ r_ar ++ (bO G ab b_ab ++ (sO G at_ s_at_ ++ []))) → ∀ ls : Array Slot, lv_has ls 3 [(0, .ref (ar 99)), (1, .int v1)] → W p l e ({ frames := 6, cells := 0, slots := 0, locals := 131 }) s m [.ref (ar 99)].toArray below meth c H locs 0 0 (MQ below (Ans G out.1 A (rO G ar ab at_ out.2.1 ++ (bO G ab b_ab ++ (sO G at_ out.2.2 ++ [])))) [.ref (ar 99)].toArray s 0 0 A) (F0 m 46 ls []) := by
    intro r_ar s_at_ v1 hf H locs hw ls hl
    unfold b_X4_readData_46 at hf
    refine r_iload0 C hl 1 rfl dX4_readData_46 ?_
    refine lv_if_gt (tgt := 52) C.1 C.2.1 dX4_readData_47 (by decide) (fun hc => ?_) (fun hc => ?_)
    · replace hf := ifp hf hc
      refine r_aload0 C hl 0 rfl dX4_readData_52 ?_
      obtain ⟨u3, e3, hf⟩ := bx hf
      refine r_callVi (ws' := (rO G ar ab at_ r_ar ++ (bO G ab b_ab ++ (sO G at_ s_at_ ++ [])))) (As := []) (rest := []) C hw hl.1 kX4_isLineEnd ml_X4_120 (c_X4_isLineEnd l G ar ab at_ _ r_ar u3 e3) (CutX.take rO_f2 CutX.none) _ (gx_h rO_o) rfl ⟨rfl, rfl⟩ ⟨Nat.le_of_ble_eq_true rfl, Nat.le_of_ble_eq_true rfl⟩ rfl ⟨Nat.zero_le _, Nat.zero_le _⟩ rfl (Nat.le_of_ble_eq_true rfl) dX4_readData_53 (fun H locs hw => ?_)
      refine lv_if_ne (tgt := 65) C.1 C.2.1 dX4_readData_56 (by decide) (fun hc => ?_) (fun hc => ?_)
      · replace hf := ifn hf hc
        refine r_iload0 C hl 1 rfl dX4_readData_65 ?_
        refine lv_bipush (v := 16) C.1 C.2.1 dX4_readData_66 (by decide) ?_
        refine lv_icmp_ge (tgt := 78) C.1 C.2.1 dX4_readData_68 (by decide) (fun hc => ?_) (fun hc => ?_)
        · replace hf := ifp hf hc
          refine r_aload0 C hl 0 rfl dX4_readData_78 ?_
          refine r_get C hw _ (gx_h rO_o) 8 fl_X4_18 rfl dX4_readData_79 ?_
          refine lv_dup C.1 C.2.1 dX4_readData_82 rfl ?_
          refine r_get C hw _ (gx_t (gx_t (gx_h sO_o))) 3 fl_X4_73 rfl dX4_readData_83 ?_
          refine lv_iconst (v := 1) C.1 C.2.1 dX4_readData_86 (by decide) ?_
          refine lv_iadd C.1 C.2.1 dX4_readData_87 ?_
          obtain ⟨s_at_4, e4, hf⟩ := bx hf
          refine r_put C hw _ (gx_t (gx_t (gx_h sO_o))) 3 fp_X4_73 rfl rfl (Nat.le_of_ble_eq_true rfl) (rO G ar ab at_ r_ar ++ (bO G ab b_ab ++ (sO G at_ s_at_4 ++ []))) (sx_t (sx_t (sx_h sO_o (sO_p3 e4)))) dX4_readData_88 (fun H locs hw => ?_)
          refine lv_iconst (v := 1) C.1 C.2.1 dX4_readData_91 (by decide) ?_
          exact fin_z C hw (by decide) (Option.some.inj hf) (fun o => o.1) (fun o => (rO G ar ab at_ o.2.1 ++ (bO G ab b_ab ++ (sO G at_ o.2.2 ++ [])))) rfl rfl dX4_readData_92
        · replace hf := ifn hf hc
          refine r_aload0 C hl 0 rfl dX4_readData_71 ?_
          refine lv_bipush (v := 6) C.1 C.2.1 dX4_readData_72 (by decide) ?_
          obtain ⟨u5, e5, hf⟩ := bx hf
          refine r_callVi (ws' := (rO G ar ab at_ u5.2 ++ (bO G ab b_ab ++ (sO G at_ s_at_ ++ [])))) (As := [.int 6]) (rest := []) C hw hl.1 kX4_fail ml_X4_64 (c_X4_fail l G ar ab at_ _ r_ar 6 u5 e5) (CutX.take rO_f2 CutX.none) _ (gx_h rO_o) rfl ⟨rfl, rfl⟩ ⟨Nat.le_of_ble_eq_true rfl, Nat.le_of_ble_eq_true rfl⟩ rfl ⟨Nat.zero_le _, Nat.zero_le _⟩ rfl (Nat.le_of_ble_eq_true rfl) dX4_readData_74 (fun H locs hw => ?_)
          obtain ⟨z6_, e6, hf⟩ := bx hf
          obtain rfl := okZ_in e6
          exact fin_z C hw e6 (Option.some.inj hf) (fun o => o.1) (fun o => (rO G ar ab at_ o.2.1 ++ (bO G ab b_ab ++ (sO G at_ o.2.2 ++ [])))) rfl rfl dX4_readData_77
      · replace hf := ifp hf hc
        refine r_aload0 C hl 0 rfl dX4_readData_59 ?_
        refine lv_iconst (v := 1) C.1 C.2.1 dX4_readData_60 (by decide) ?_
        obtain ⟨u7, e7, hf⟩ := bx hf
        refine r_callVi (ws' := (rO G ar ab at_ u7.2 ++ (bO G ab b_ab ++ (sO G at_ s_at_ ++ [])))) (As := [.int 1]) (rest := []) C hw hl.1 kX4_fail ml_X4_64 (c_X4_fail l G ar ab at_ _ r_ar 1 u7 e7) (CutX.take rO_f2 CutX.none) _ (gx_h rO_o) rfl ⟨rfl, rfl⟩ ⟨Nat.le_of_ble_eq_true rfl, Nat.le_of_ble_eq_true rfl⟩ rfl ⟨Nat.zero_le _, Nat.zero_le _⟩ rfl (Nat.le_of_ble_eq_true rfl) dX4_readData_61 (fun H locs hw => ?_)
        obtain ⟨z8_, e8, hf⟩ := bx hf
        obtain rfl := okZ_in e8
        exact fin_z C hw e8 (Option.some.inj hf) (fun o => o.1) (fun o => (rO G ar ab at_ o.2.1 ++ (bO G ab b_ab ++ (sO G at_ o.2.2 ++ [])))) rfl rfl dX4_readData_64
    · replace hf := ifn hf hc
      refine lv_iconst (v := 0) C.1 C.2.1 dX4_readData_50 (by decide) ?_
      exact fin_z C hw (by decide) (Option.some.inj hf) (fun o => o.1) (fun o => (rO G ar ab at_ o.2.1 ++ (bO G ab b_ab ++ (sO G at_ o.2.2 ++ [])))) rfl rfl dX4_readData_51
  have hB_12 : ∀ (k12 : Pic → Pic → Int32 → Int32 → Option (Int32 × Pic × Pic)) (hk12 : ∀ (r_ar : Pic) (s_at_ : Pic) (v1 : Int32) (v2 : Int32), k12 r_ar s_at_ v1 v2 = some out → ∀ (H : Heap) (locs : List Loc), Wd G A s H locs (rO G ar ab at_ r_ar ++ (bO G ab b_ab ++ (sO G at_ s_at_ ++ []))) → ∀ ls : Array Slot, lv_has ls 3 [(0, .ref (ar 99)), (1, .int v1), (2, .int v2)] → W p l e ({ frames := 6, cells := 0, slots := 0, locals := 131 }) s m [.ref (ar 99)].toArray below meth c H locs 0 0 (MQ below (Ans G out.1 A (rO G ar ab at_ out.2.1 ++ (bO G ab b_ab ++ (sO G at_ out.2.2 ++ [])))) [.ref (ar 99)].toArray s 0 0 A) (F0 m 12 ls [])), ∀ (r_ar : Pic) (s_at_ : Pic) (v1 : Int32) (v2 : Int32), b_X4_readData_12 b_ab k12 r_ar s_at_ v1 v2 = some out → ∀ (H : Heap) (locs : List Loc), Wd G A s H locs (rO G ar ab at_ r_ar ++ (bO G ab b_ab ++ (sO G at_ s_at_ ++ []))) → ∀ ls : Array Slot, lv_has ls 3 [(0, .ref (ar 99)), (1, .int v1), (2, .int v2)] → W p l e ({ frames := 6, cells := 0, slots := 0, locals := 131 }) s m [.ref (ar 99)].toArray below meth c H locs 0 0 (MQ below (Ans G out.1 A (rO G ar ab at_ out.2.1 ++ (bO G ab b_ab ++ (sO G at_ out.2.2 ++ [])))) [.ref (ar 99)].toArray s 0 0 A) (F0 m 12 ls []) := by
    intro k12 hk12 r_ar s_at_ v1 v2 hf H locs hw ls hl
    unfold b_X4_readData_12 at hf
    refine r_iload0 C hl 1 rfl dX4_readData_12 ?_
    refine lv_if_le (tgt := 46) C.1 C.2.1 dX4_readData_13 (by decide) (fun hc => ?_) (fun hc => ?_)
    · replace hf := ifp hf hc
      exact hB_46  r_ar s_at_ v1 hf _ _ hw _ (lv_sub hl [0, 1] rfl)
    · replace hf := ifn hf hc
      refine r_aload0 C hl 0 rfl dX4_readData_16 ?_
      refine r_get C hw _ (gx_h rO_o) 4 fl_X4_52 rfl dX4_readData_17 ?_
      refine lv_iconst (v := 4) C.1 C.2.1 dX4_readData_20 (by decide) ?_
      refine lv_icmp_ne (tgt := 46) C.1 C.2.1 dX4_readData_21 (by decide) (fun hc => ?_) (fun hc => ?_)
      · replace hf := ifn hf hc
        exact hB_46  r_ar s_at_ v1 hf _ _ hw _ (lv_sub hl [0, 1] rfl)
      · replace hf := ifp hf hc
        refine r_iload0 C hl 2 rfl dX4_readData_24 ?_
        refine lv_bipush (v := 16) C.1 C.2.1 dX4_readData_25 (by decide) ?_
        refine lv_icmp_gt (tgt := 46) C.1 C.2.1 dX4_readData_27 (by decide) (fun hc => ?_) (fun hc => ?_)
        · replace hf := ifp hf hc
          exact hB_46  r_ar s_at_ v1 hf _ _ hw _ (lv_sub hl [0, 1] rfl)
        · replace hf := ifn hf hc
          refine r_aload0 C hl 0 rfl dX4_readData_30 ?_
          obtain ⟨u9, e9, hf⟩ := bx hf
          refine r_callVv (ws' := (rO G ar ab at_ u9 ++ (bO G ab b_ab ++ (sO G at_ s_at_ ++ [])))) (As := []) (rest := []) C hw hl.1 kX4_advance ml_X4_45 (c_X4_advance l G ar ab at_ _ r_ar b_ab u9 e9) (CutX.take rO_f2 (CutX.take bO_f CutX.none)) _ (gx_h rO_o) rfl ⟨rfl, rfl⟩ ⟨Nat.le_of_ble_eq_true rfl, Nat.le_of_ble_eq_true rfl⟩ rfl ⟨Nat.zero_le _, Nat.zero_le _⟩ rfl (Nat.le_of_ble_eq_true rfl) dX4_readData_31 (fun H locs hw => ?_)
          refine r_aload0 C hl 0 rfl dX4_readData_34 ?_
          refine r_iload0 C hl 1 rfl dX4_readData_35 ?_
          obtain ⟨u10, e10, hf⟩ := bx hf
          refine g_callVi (ws' := (rO G ar ab at_ u10.2.1 ++ (bO G ab b_ab ++ (sO G at_ u10.2.2 ++ [])))) (As := [.int v1]) (rest := []) C hw hl.1 kX4_readCells ml_X4_127 (c_X4_readCells l G K ar ab at_ _ u9 b_ab s_at_ v1 u10 e10) blindT (CutX.take rO_f2 (CutX.take bO_f (CutX.take sO_f CutX.none))) (fun hf U hU hW hp => ⟨hp, hq.pass hw.2.2.2.1 hf hU hW⟩) (va_recv hw.1 hw.2.1 rfl (gx_h rO_o)) ⟨rfl, rfl⟩ ⟨Nat.le_of_ble_eq_true rfl, Nat.le_of_ble_eq_true rfl⟩ rfl ⟨Nat.zero_le _, Nat.zero_le _⟩ rfl (Nat.le_of_ble_eq_true rfl) dX4_readData_36 (fun H locs hw => ?_)
          refine r_istore0 C hl [(1, .int u10.1), (0, .ref (ar 99)), (2, .int v2)] (by decide) rfl dX4_readData_39 (fun ls hl => ?_)
          refine r_iinc C hl 2 (v2 + 1) [(2, .int (v2 + 1)), (1, .int u10.1), (0, .ref (ar 99))] rfl (iinc_e (by decide)) (by decide) rfl dX4_readData_40 (fun ls hl => ?_)
          refine lv_goto (tgt := 12) C.1 C.2.1 dX4_readData_43 (by decide) ?_
          exact hk12 u10.2.1 u10.2.2 u10.1 (v2 + 1) hf _ _ hw _ (lv_sub hl [2, 1, 0] rfl)
  have hL_12 : ∀ n : Nat, ∀ (r_ar : Pic) (s_at_ : Pic) (v1 : Int32) (v2 : Int32), L_X4_readData_12 b_ab  n r_ar s_at_ v1 v2 = some out → ∀ (H : Heap) (locs : List Loc), Wd G A s H locs (rO G ar ab at_ r_ar ++ (bO G ab b_ab ++ (sO G at_ s_at_ ++ []))) → ∀ ls : Array Slot, lv_has ls 3 [(0, .ref (ar 99)), (1, .int v1), (2, .int v2)] → W p l e ({ frames := 6, cells := 0, slots := 0, locals := 131 }) s m [.ref (ar 99)].toArray below meth c H locs 0 0 (MQ below (Ans G out.1 A (rO G ar ab at_ out.2.1 ++ (bO G ab b_ab ++ (sO G at_ out.2.2 ++ [])))) [.ref (ar 99)].toArray s 0 0 A) (F0 m 12 ls []) := by
    intro  n
    induction n with
    | zero => intro r_ar s_at_ v1 v2 hf; cases hf
    | succ n ih => exact hB_12 _ ih
  unfold f_X4_readData at hf
  refine r_aload0 C hl 0 rfl dX4_readData_0 ?_
  obtain ⟨u1, e1, hf⟩ := bx hf
  refine r_callVv (ws' := (rO G ar ab at_ u1 ++ (bO G ab b_ab ++ (sO G at_ s_at_ ++ [])))) (As := []) (rest := []) C hw hl.1 kX4_advance ml_X4_45 (c_X4_advance l G ar ab at_ _ r_ar b_ab u1 e1) (CutX.take rO_f2 (CutX.take bO_f CutX.none)) _ (gx_h rO_o) rfl ⟨rfl, rfl⟩ ⟨Nat.le_of_ble_eq_true rfl, Nat.le_of_ble_eq_true rfl⟩ rfl ⟨Nat.zero_le _, Nat.zero_le _⟩ rfl (Nat.le_of_ble_eq_true rfl) dX4_readData_1 (fun H locs hw => ?_)
  refine r_aload0 C hl 0 rfl dX4_readData_4 ?_
  refine lv_iconst (v := 0) C.1 C.2.1 dX4_readData_5 (by decide) ?_
  obtain ⟨u2, e2, hf⟩ := bx hf
  refine g_callVi (ws' := (rO G ar ab at_ u2.2.1 ++ (bO G ab b_ab ++ (sO G at_ u2.2.2 ++ [])))) (As := [.int 0]) (rest := []) C hw hl.1 kX4_readCells ml_X4_127 (c_X4_readCells l G K ar ab at_ _ u1 b_ab s_at_ 0 u2 e2) blindT (CutX.take rO_f2 (CutX.take bO_f (CutX.take sO_f CutX.none))) (fun hf U hU hW hp => ⟨hp, hq.pass hw.2.2.2.1 hf hU hW⟩) (va_recv hw.1 hw.2.1 rfl (gx_h rO_o)) ⟨rfl, rfl⟩ ⟨Nat.le_of_ble_eq_true rfl, Nat.le_of_ble_eq_true rfl⟩ rfl ⟨Nat.zero_le _, Nat.zero_le _⟩ rfl (Nat.le_of_ble_eq_true rfl) dX4_readData_6 (fun H locs hw => ?_)
  refine r_istore0 C hl [(1, .int u2.1), (0, .ref (ar 99))] (by decide) rfl dX4_readData_9 (fun ls hl => ?_)
  refine lv_iconst (v := 0) C.1 C.2.1 dX4_readData_10 (by decide) ?_
  refine r_istore0 C hl [(2, .int 0), (1, .int u2.1), (0, .ref (ar 99))] (by decide) rfl dX4_readData_11 (fun ls hl => ?_)
  exact hL_12  FU u2.2.1 u2.2.2 u2.1 0 hf _ _ hw _ (lv_sub hl [2, 1, 0] rfl)
set_option maxHeartbeats 4000000 in
set_option maxRecDepth 100000 in
theorem c_X4_readLine (l : Launch) (G : GG) (K : SK) (ar : Nat → Nat) (ab : Nat → Nat) (at_ : Nat → Nat) (sz : Nat) (r_ar : Pic) (b_ab : Pic) (s_at_ : Pic)  (out : Int32 × Pic × Pic) (hf : f_X4_readLine r_ar b_ab s_at_ = some out) : Met l yX4_readLine (.code yX4_readLine cX4_readLine 2 (some .boolean) :: BT) ({ frames := 7, cells := 0, slots := 0, locals := 153 }) (va_Pc [.ref (ar 99)] (PreT G K sz (rO G ar ab at_ r_ar ++ (bO G ab b_ab ++ (sO G at_ s_at_ ++ []))))) (Ans G out.1 (va_A (rO G ar ab at_ r_ar ++ (bO G ab b_ab ++ (sO G at_ s_at_ ++ []))) sz) (rO G ar ab at_ out.2.1 ++ (bO G ab b_ab ++ (sO G at_ out.2.2 ++ [])))) 0 0 (va_A (rO G ar ab at_ r_ar ++ (bO G ab b_ab ++ (sO G at_ s_at_ ++ []))) sz) := by
  refine Met.intoT (by decide) (Nat.le_of_ble_eq_true rfl) ?_
  intro p e s m below meth c C hsz hq ls hl hw
  have hl : lv_has ls 2 [(0, .ref (ar 99))] := hl
  clear hsz
  generalize va_A (rO G ar ab at_ r_ar ++ (bO G ab b_ab ++ (sO G at_ s_at_ ++ []))) sz = A at hw hq ⊢
  unfold f_X4_readLine at hf
  refine r_aload0 C hl 0 rfl dX4_readLine_0 ?_
  refine va_ldcS C.1 C.2.1 C.2.2.2.1 (hq.2.1 0 (by decide)).1 dX4_readLine_1 ?_
  obtain ⟨u1, e1, hf⟩ := bx hf
  refine g_callVi (ws' := (rO G ar ab at_ r_ar ++ (bO G ab b_ab ++ (sO G at_ s_at_ ++ [])))) (As := [.ref (K.1 0)]) (rest := []) C hw hl.1 kX4_isWord ml_X4_60 (c_X4_isWord l G K ar ab at_ _ r_ar b_ab 0 (by decide) u1 e1) blindT (CutX.take rO_f2 (CutX.take bO_f CutX.none)) (fun hf U hU hW hp => ⟨hp, hq.pass hw.2.2.2.1 hf hU hW⟩) (va_recv hw.1 hw.2.1 rfl (gx_h rO_o)) ⟨rfl, rfl⟩ ⟨Nat.le_of_ble_eq_true rfl, Nat.le_of_ble_eq_true rfl⟩ rfl ⟨Nat.zero_le _, Nat.zero_le _⟩ rfl (Nat.le_of_ble_eq_true rfl) dX4_readLine_3 (fun H locs hw => ?_)
  refine lv_if_eq (tgt := 29) C.1 C.2.1 dX4_readLine_6 (by decide) (fun hc => ?_) (fun hc => ?_)
  · replace hf := ifp hf hc
    refine r_aload0 C hl 0 rfl dX4_readLine_29 ?_
    refine va_ldcS C.1 C.2.1 C.2.2.2.1 (hq.2.1 4 (by decide)).1 dX4_readLine_30 ?_
    obtain ⟨u2, e2, hf⟩ := bx hf
    refine g_callVi (ws' := (rO G ar ab at_ r_ar ++ (bO G ab b_ab ++ (sO G at_ s_at_ ++ [])))) (As := [.ref (K.1 4)]) (rest := []) C hw hl.1 kX4_isWord ml_X4_60 (c_X4_isWord l G K ar ab at_ _ r_ar b_ab 4 (by decide) u2 e2) blindT (CutX.take rO_f2 (CutX.take bO_f CutX.none)) (fun hf U hU hW hp => ⟨hp, hq.pass hw.2.2.2.1 hf hU hW⟩) (va_recv hw.1 hw.2.1 rfl (gx_h rO_o)) ⟨rfl, rfl⟩ ⟨Nat.le_of_ble_eq_true rfl, Nat.le_of_ble_eq_true rfl⟩ rfl ⟨Nat.zero_le _, Nat.zero_le _⟩ rfl (Nat.le_of_ble_eq_true rfl) dX4_readLine_32 (fun H locs hw => ?_)
    refine lv_if_eq (tgt := 67) C.1 C.2.1 dX4_readLine_35 (by decide) (fun hc => ?_) (fun hc => ?_)
    · replace hf := ifp hf hc
      refine r_aload0 C hl 0 rfl dX4_readLine_67 ?_
      obtain ⟨u3, e3, hf⟩ := bx hf
      refine g_callVi (ws' := (rO G ar ab at_ r_ar ++ (bO G ab b_ab ++ (sO G at_ s_at_ ++ [])))) (As := []) (rest := []) C hw hl.1 kX4_opOfWord ml_X4_83 (c_X4_opOfWord l G K ar ab at_ _ r_ar b_ab u3 e3) blindT (CutX.take rO_f2 (CutX.take bO_f CutX.none)) (fun hf U hU hW hp => ⟨hp, hq.pass hw.2.2.2.1 hf hU hW⟩) (va_recv hw.1 hw.2.1 rfl (gx_h rO_o)) ⟨rfl, rfl⟩ ⟨Nat.le_of_ble_eq_true rfl, Nat.le_of_ble_eq_true rfl⟩ rfl ⟨Nat.zero_le _, Nat.zero_le _⟩ rfl (Nat.le_of_ble_eq_true rfl) dX4_readLine_68 (fun H locs hw => ?_)
      refine r_istore0 C hl [(1, .int u3), (0, .ref (ar 99))] (by decide) rfl dX4_readLine_71 (fun ls hl => ?_)
      refine r_iload0 C hl 0 rfl dX4_readLine_72 ?_
      refine lv_if_ge (tgt := 82) C.1 C.2.1 dX4_readLine_73 (by decide) (fun hc => ?_) (fun hc => ?_)
      · replace hf := ifp hf hc
        refine r_aload0 C hl 1 rfl dX4_readLine_82 ?_
        refine r_aload0 C hl 1 rfl dX4_readLine_83 ?_
        refine r_get C hw _ (gx_h rO_o) 8 fl_X4_18 rfl dX4_readLine_84 ?_
        refine r_get C hw _ (gx_t (gx_t (gx_h sO_o))) 4 fl_X4_87 rfl dX4_readLine_87 ?_
        refine lv_bipush (v := 24) C.1 C.2.1 dX4_readLine_90 (by decide) ?_
        obtain ⟨u4, e4, hf⟩ := bx hf
        refine r_callVi (ws' := (rO G ar ab at_ u4.2 ++ (bO G ab b_ab ++ (sO G at_ s_at_ ++ [])))) (As := [.int (gS s_at_ 4), .int 24]) (rest := []) C hw hl.1 kX4_mayCome ml_X4_76 (c_X4_mayCome l G ar ab at_ _ r_ar (gS s_at_ 4) 24 u4 e4) (CutX.take rO_f2 CutX.none) _ (gx_h rO_o) rfl ⟨rfl, rfl⟩ ⟨Nat.le_of_ble_eq_true rfl, Nat.le_of_ble_eq_true rfl⟩ rfl ⟨Nat.zero_le _, Nat.zero_le _⟩ rfl (Nat.le_of_ble_eq_true rfl) dX4_readLine_92 (fun H locs hw => ?_)
        refine lv_if_eq (tgt := 110) C.1 C.2.1 dX4_readLine_95 (by decide) (fun hc => ?_) (fun hc => ?_)
        · replace hf := ifp hf hc
          refine lv_iconst (v := 0) C.1 C.2.1 dX4_readLine_110 (by decide) ?_
          exact fin_z C hw (by decide) (Option.some.inj hf) (fun o => o.1) (fun o => (rO G ar ab at_ o.2.1 ++ (bO G ab b_ab ++ (sO G at_ o.2.2 ++ [])))) rfl rfl dX4_readLine_111
        · replace hf := ifn hf hc
          refine r_aload0 C hl 1 rfl dX4_readLine_98 ?_
          refine r_iload0 C hl 0 rfl dX4_readLine_99 ?_
          obtain ⟨u5, e5, hf⟩ := bx hf
          refine r_callVi (ws' := (rO G ar ab at_ u5.2.1 ++ (bO G ab b_ab ++ (sO G at_ u5.2.2 ++ [])))) (As := [.int u3]) (rest := []) C hw hl.1 kX4_readOp ml_X4_90 (c_X4_readOp l G ar ab at_ _ u4.2 b_ab s_at_ u3 u5 e5) (CutX.take rO_f2 (CutX.take bO_f (CutX.take sO_f CutX.none))) _ (gx_h rO_o) rfl ⟨rfl, rfl⟩ ⟨Nat.le_of_ble_eq_true rfl, Nat.le_of_ble_eq_true rfl⟩ rfl ⟨Nat.zero_le _, Nat.zero_le _⟩ rfl (Nat.le_of_ble_eq_true rfl) dX4_readLine_100 (fun H locs hw => ?_)
          refine lv_if_eq (tgt := 110) C.1 C.2.1 dX4_readLine_103 (by decide) (fun hc => ?_) (fun hc => ?_)
          · replace hf := ifp hf hc
            refine lv_iconst (v := 0) C.1 C.2.1 dX4_readLine_110 (by decide) ?_
            exact fin_z C hw (by decide) (Option.some.inj hf) (fun o => o.1) (fun o => (rO G ar ab at_ o.2.1 ++ (bO G ab b_ab ++ (sO G at_ o.2.2 ++ [])))) rfl rfl dX4_readLine_111
          · replace hf := ifn hf hc
            refine lv_iconst (v := 1) C.1 C.2.1 dX4_readLine_106 (by decide) ?_
            refine lv_goto (tgt := 111) C.1 C.2.1 dX4_readLine_107 (by decide) ?_
            exact fin_z C hw (by decide) (Option.some.inj hf) (fun o => o.1) (fun o => (rO G ar ab at_ o.2.1 ++ (bO G ab b_ab ++ (sO G at_ o.2.2 ++ [])))) rfl rfl dX4_readLine_111
      · replace hf := ifn hf hc
        refine r_aload0 C hl 1 rfl dX4_readLine_76 ?_
        refine lv_iconst (v := 1) C.1 C.2.1 dX4_readLine_77 (by decide) ?_
        obtain ⟨u6, e6, hf⟩ := bx hf
        refine r_callVi (ws' := (rO G ar ab at_ u6.2 ++ (bO G ab b_ab ++ (sO G at_ s_at_ ++ [])))) (As := [.int 1]) (rest := []) C hw hl.1 kX4_fail ml_X4_64 (c_X4_fail l G ar ab at_ _ r_ar 1 u6 e6) (CutX.take rO_f2 CutX.none) _ (gx_h rO_o) rfl ⟨rfl, rfl⟩ ⟨Nat.le_of_ble_eq_true rfl, Nat.le_of_ble_eq_true rfl⟩ rfl ⟨Nat.zero_le _, Nat.zero_le _⟩ rfl (Nat.le_of_ble_eq_true rfl) dX4_readLine_78 (fun H locs hw => ?_)
        obtain ⟨z7_, e7, hf⟩ := bx hf
        obtain rfl := okZ_in e7
        exact fin_z C hw e7 (Option.some.inj hf) (fun o => o.1) (fun o => (rO G ar ab at_ o.2.1 ++ (bO G ab b_ab ++ (sO G at_ o.2.2 ++ [])))) rfl rfl dX4_readLine_81
    · replace hf := ifn hf hc
      refine r_aload0 C hl 0 rfl dX4_readLine_38 ?_
      refine r_aload0 C hl 0 rfl dX4_readLine_39 ?_
      refine r_get C hw _ (gx_h rO_o) 8 fl_X4_18 rfl dX4_readLine_40 ?_
      refine r_get C hw _ (gx_t (gx_t (gx_h sO_o))) 3 fl_X4_73 rfl dX4_readLine_43 ?_
      refine lv_bipush (v := 10) C.1 C.2.1 dX4_readLine_46 (by decide) ?_
      obtain ⟨u8, e8, hf⟩ := bx hf
      refine r_callVi (ws' := (rO G ar ab at_ u8.2 ++ (bO G ab b_ab ++ (sO G at_ s_at_ ++ [])))) (As := [.int (gS s_at_ 3), .int 10]) (rest := []) C hw hl.1 kX4_mayCome ml_X4_76 (c_X4_mayCome l G ar ab at_ _ r_ar (gS s_at_ 3) 10 u8 e8) (CutX.take rO_f2 CutX.none) _ (gx_h rO_o) rfl ⟨rfl, rfl⟩ ⟨Nat.le_of_ble_eq_true rfl, Nat.le_of_ble_eq_true rfl⟩ rfl ⟨Nat.zero_le _, Nat.zero_le _⟩ rfl (Nat.le_of_ble_eq_true rfl) dX4_readLine_48 (fun H locs hw => ?_)
      refine lv_if_eq (tgt := 65) C.1 C.2.1 dX4_readLine_51 (by decide) (fun hc => ?_) (fun hc => ?_)
      · replace hf := ifp hf hc
        refine lv_iconst (v := 0) C.1 C.2.1 dX4_readLine_65 (by decide) ?_
        exact fin_z C hw (by decide) (Option.some.inj hf) (fun o => o.1) (fun o => (rO G ar ab at_ o.2.1 ++ (bO G ab b_ab ++ (sO G at_ o.2.2 ++ [])))) rfl rfl dX4_readLine_66
      · replace hf := ifn hf hc
        refine r_aload0 C hl 0 rfl dX4_readLine_54 ?_
        obtain ⟨u9, e9, hf⟩ := bx hf
        refine g_callVi (ws' := (rO G ar ab at_ u9.2.1 ++ (bO G ab b_ab ++ (sO G at_ u9.2.2 ++ [])))) (As := []) (rest := []) C hw hl.1 kX4_readData ml_X4_80 (c_X4_readData l G K ar ab at_ _ u8.2 b_ab s_at_ u9 e9) blindT (CutX.take rO_f2 (CutX.take bO_f (CutX.take sO_f CutX.none))) (fun hf U hU hW hp => ⟨hp, hq.pass hw.2.2.2.1 hf hU hW⟩) (va_recv hw.1 hw.2.1 rfl (gx_h rO_o)) ⟨rfl, rfl⟩ ⟨Nat.le_of_ble_eq_true rfl, Nat.le_of_ble_eq_true rfl⟩ rfl ⟨Nat.zero_le _, Nat.zero_le _⟩ rfl (Nat.le_of_ble_eq_true rfl) dX4_readLine_55 (fun H locs hw => ?_)
        refine lv_if_eq (tgt := 65) C.1 C.2.1 dX4_readLine_58 (by decide) (fun hc => ?_) (fun hc => ?_)
        · replace hf := ifp hf hc
          refine lv_iconst (v := 0) C.1 C.2.1 dX4_readLine_65 (by decide) ?_
          exact fin_z C hw (by decide) (Option.some.inj hf) (fun o => o.1) (fun o => (rO G ar ab at_ o.2.1 ++ (bO G ab b_ab ++ (sO G at_ o.2.2 ++ [])))) rfl rfl dX4_readLine_66
        · replace hf := ifn hf hc
          refine lv_iconst (v := 1) C.1 C.2.1 dX4_readLine_61 (by decide) ?_
          refine lv_goto (tgt := 66) C.1 C.2.1 dX4_readLine_62 (by decide) ?_
          exact fin_z C hw (by decide) (Option.some.inj hf) (fun o => o.1) (fun o => (rO G ar ab at_ o.2.1 ++ (bO G ab b_ab ++ (sO G at_ o.2.2 ++ [])))) rfl rfl dX4_readLine_66
  · replace hf := ifn hf hc
    refine r_aload0 C hl 0 rfl dX4_readLine_9 ?_
    refine r_get C hw _ (gx_h rO_o) 5 fl_X4_38 rfl dX4_readLine_10 ?_
    refine lv_if_eq (tgt := 24) C.1 C.2.1 dX4_readLine_13 (by decide) (fun hc => ?_) (fun hc => ?_)
    · replace hf := ifp hf hc
      refine r_aload0 C hl 0 rfl dX4_readLine_24 ?_
      obtain ⟨u10, e10, hf⟩ := bx hf
      refine g_callVi (ws' := (rO G ar ab at_ u10.2.1 ++ (bO G ab b_ab ++ (sO G at_ u10.2.2 ++ [])))) (As := []) (rest := []) C hw hl.1 kX4_readSettings ml_X4_68 (c_X4_readSettings l G K ar ab at_ _ r_ar b_ab s_at_ u10 e10) blindT (CutX.take rO_f2 (CutX.take bO_f (CutX.take sO_f CutX.none))) (fun hf U hU hW hp => ⟨hp, hq.pass hw.2.2.2.1 hf hU hW⟩) (va_recv hw.1 hw.2.1 rfl (gx_h rO_o)) ⟨rfl, rfl⟩ ⟨Nat.le_of_ble_eq_true rfl, Nat.le_of_ble_eq_true rfl⟩ rfl ⟨Nat.zero_le _, Nat.zero_le _⟩ rfl (Nat.le_of_ble_eq_true rfl) dX4_readLine_25 (fun H locs hw => ?_)
      obtain ⟨z11_, e11, hf⟩ := bx hf
      obtain rfl := okZ_in e11
      exact fin_z C hw e11 (Option.some.inj hf) (fun o => o.1) (fun o => (rO G ar ab at_ o.2.1 ++ (bO G ab b_ab ++ (sO G at_ o.2.2 ++ [])))) rfl rfl dX4_readLine_28
    · replace hf := ifn hf hc
      refine r_aload0 C hl 0 rfl dX4_readLine_16 ?_
      refine lv_iconst (v := 3) C.1 C.2.1 dX4_readLine_17 (by decide) ?_
      obtain ⟨u12, e12, hf⟩ := bx hf
      refine r_callVi (ws' := (rO G ar ab at_ u12.2 ++ (bO G ab b_ab ++ (sO G at_ s_at_ ++ [])))) (As := [.int 3]) (rest := []) C hw hl.1 kX4_fail ml_X4_64 (c_X4_fail l G ar ab at_ _ r_ar 3 u12 e12) (CutX.take rO_f2 CutX.none) _ (gx_h rO_o) rfl ⟨rfl, rfl⟩ ⟨Nat.le_of_ble_eq_true rfl, Nat.le_of_ble_eq_true rfl⟩ rfl ⟨Nat.zero_le _, Nat.zero_le _⟩ rfl (Nat.le_of_ble_eq_true rfl) dX4_readLine_18 (fun H locs hw => ?_)
      refine lv_goto (tgt := 28) C.1 C.2.1 dX4_readLine_21 (by decide) ?_
      obtain ⟨z13_, e13, hf⟩ := bx hf
      obtain rfl := okZ_in e13
      exact fin_z C hw e13 (Option.some.inj hf) (fun o => o.1) (fun o => (rO G ar ab at_ o.2.1 ++ (bO G ab b_ab ++ (sO G at_ o.2.2 ++ [])))) rfl rfl dX4_readLine_28
set_option maxHeartbeats 4000000 in
set_option maxRecDepth 100000 in
theorem c_X4_readScript (l : Launch) (G : GG) (K : SK) (ar : Nat → Nat) (ab : Nat → Nat) (at_ : Nat → Nat) (ab0 : Nat → Nat) (sz : Nat) (r_ar : Pic) (b_ab : Pic) (s_at_ : Pic) (x2 : Int32) (out : Int32 × Pic × Pic) (hf : f_X4_readScript r_ar b_ab s_at_ x2 = some out) : Met l yX4_readScript (.code yX4_readScript cX4_readScript 5 (some .int) :: BT) ({ frames := 8, cells := 0, slots := 0, locals := 174 }) (va_Pc [.ref (ar 99), .ref (ab 0), .int x2] (PreT G K sz (rO G ar ab0 at_ r_ar ++ (bO G ab b_ab ++ (sO G at_ s_at_ ++ []))))) (Ans G out.1 (va_A (rO G ar ab0 at_ r_ar ++ (bO G ab b_ab ++ (sO G at_ s_at_ ++ []))) sz) (rO G ar ab at_ out.2.1 ++ (bO G ab b_ab ++ (sO G at_ out.2.2 ++ [])))) 0 0 (va_A (rO G ar ab0 at_ r_ar ++ (bO G ab b_ab ++ (sO G at_ s_at_ ++ []))) sz) := by
  refine Met.intoT (by decide) (Nat.le_of_ble_eq_true rfl) ?_
  intro p e s m below meth c C hsz hq ls hl hw
  have hl : lv_has ls 5 [(0, .ref (ar 99)), (1, .ref (ab 0)), (2, .int x2)] := hl
  clear hsz
  generalize va_A (rO G ar ab0 at_ r_ar ++ (bO G ab b_ab ++ (sO G at_ s_at_ ++ []))) sz = A at hw hq ⊢
  have hB_49 : ∀ (k49 : Pic → Pic → Int32 → Int32 → Option (Int32 × Pic × Pic)) (hk49 : ∀ (r_ar : Pic) (s_at_ : Pic) (v3 : Int32) (v4 : Int32), k49 r_ar s_at_ v3 v4 = some out → ∀ (H : Heap) (locs : List Loc), Wd G A s H locs (rO G ar ab at_ r_ar ++ (bO G ab b_ab ++ (sO G at_ s_at_ ++ []))) → ∀ ls : Array Slot, lv_has ls 5 [(0, .ref (ar 99)), (3, .int v3), (4, .int v4)] → W p l e ({ frames := 8, cells := 0, slots := 0, locals := 174 }) s m [.ref (ar 99), .ref (ab 0), .int x2].toArray below meth c H locs 0 0 (MQ below (Ans G out.1 A (rO G ar ab at_ out.2.1 ++ (bO G ab b_ab ++ (sO G at_ out.2.2 ++ [])))) [.ref (ar 99), .ref (ab 0), .int x2].toArray s 0 0 A) (F0 m 49 ls [])), ∀ (r_ar : Pic) (s_at_ : Pic) (v3 : Int32) (v4 : Int32), b_X4_readScript_49 b_ab x2 k49 r_ar s_at_ v3 v4 = some out → ∀ (H : Heap) (locs : List Loc), Wd G A s H locs (rO G ar ab at_ r_ar ++ (bO G ab b_ab ++ (sO G at_ s_at_ ++ []))) → ∀ ls : Array Slot, lv_has ls 5 [(0, .ref (ar 99)), (3, .int v3), (4, .int v4)] → W p l e ({ frames := 8, cells := 0, slots := 0, locals := 174 }) s m [.ref (ar 99), .ref (ab 0), .int x2].toArray below meth c H locs 0 0 (MQ below (Ans G out.1 A (rO G ar ab at_ out.2.1 ++ (bO G ab b_ab ++ (sO G at_ out.2.2 ++ [])))) [.ref (ar 99), .ref (ab 0), .int x2].toArray s 0 0 A) (F0 m 49 ls []) := by
    intro k49 hk49 r_ar s_at_ v3 v4 hf H locs hw ls hl
    unfold b_X4_readScript_49 at hf
    refine r_iload0 C hl 1 rfl dX4_readScript_49 ?_
    refine lv_if_eq (tgt := 84) C.1 C.2.1 dX4_readScript_50 (by decide) (fun hc => ?_) (fun hc => ?_)
    · replace hf := ifp hf hc
      refine r_aload0 C hl 0 rfl dX4_readScript_84 ?_
      refine r_get C hw _ (gx_h rO_o) 6 fl_X4_42 rfl dX4_readScript_85 ?_
      exact fin_i C hw (Option.some.inj hf) (fun o => o.1) (fun o => (rO G ar ab at_ o.2.1 ++ (bO G ab b_ab ++ (sO G at_ o.2.2 ++ [])))) rfl rfl dX4_readScript_88
    · replace hf := ifn hf hc
      refine r_aload0 C hl 0 rfl dX4_readScript_53 ?_
      refine r_get C hw _ (gx_h rO_o) 4 fl_X4_52 rfl dX4_readScript_54 ?_
      refine lv_iconst (v := 3) C.1 C.2.1 dX4_readScript_57 (by decide) ?_
      refine lv_icmp_ne (tgt := 84) C.1 C.2.1 dX4_readScript_58 (by decide) (fun hc => ?_) (fun hc => ?_)
      · replace hf := ifn hf hc
        refine r_aload0 C hl 0 rfl dX4_readScript_84 ?_
        refine r_get C hw _ (gx_h rO_o) 6 fl_X4_42 rfl dX4_readScript_85 ?_
        exact fin_i C hw (Option.some.inj hf) (fun o => o.1) (fun o => (rO G ar ab at_ o.2.1 ++ (bO G ab b_ab ++ (sO G at_ o.2.2 ++ [])))) rfl rfl dX4_readScript_88
      · replace hf := ifp hf hc
        refine r_iload C hl 2 rfl dX4_readScript_61 ?_
        refine lv_sipush (v := 900) C.1 C.2.1 dX4_readScript_63 (by decide) ?_
        refine lv_icmp_gt (tgt := 84) C.1 C.2.1 dX4_readScript_66 (by decide) (fun hc => ?_) (fun hc => ?_)
        · replace hf := ifp hf hc
          refine r_aload0 C hl 0 rfl dX4_readScript_84 ?_
          refine r_get C hw _ (gx_h rO_o) 6 fl_X4_42 rfl dX4_readScript_85 ?_
          exact fin_i C hw (Option.some.inj hf) (fun o => o.1) (fun o => (rO G ar ab at_ o.2.1 ++ (bO G ab b_ab ++ (sO G at_ o.2.2 ++ [])))) rfl rfl dX4_readScript_88
        · replace hf := ifn hf hc
          refine r_aload0 C hl 0 rfl dX4_readScript_69 ?_
          obtain ⟨u10, e10, hf⟩ := bx hf
          refine r_callVv (ws' := (rO G ar ab at_ u10 ++ (bO G ab b_ab ++ (sO G at_ s_at_ ++ [])))) (As := []) (rest := []) C hw hl.1 kX4_advance ml_X4_45 (c_X4_advance l G ar ab at_ _ r_ar b_ab u10 e10) (CutX.take rO_f2 (CutX.take bO_f CutX.none)) _ (gx_h rO_o) rfl ⟨rfl, rfl⟩ ⟨Nat.le_of_ble_eq_true rfl, Nat.le_of_ble_eq_true rfl⟩ rfl ⟨Nat.zero_le _, Nat.zero_le _⟩ rfl (Nat.le_of_ble_eq_true rfl) dX4_readScript_70 (fun H locs hw => ?_)
          refine r_aload0 C hl 0 rfl dX4_readScript_73 ?_
          obtain ⟨u11, e11, hf⟩ := bx hf
          refine g_callVi (ws' := (rO G ar ab at_ u11.2.1 ++ (bO G ab b_ab ++ (sO G at_ u11.2.2 ++ [])))) (As := []) (rest := []) C hw hl.1 kX4_readLine ml_X4_48 (c_X4_readLine l G K ar ab at_ _ u10 b_ab s_at_ u11 e11) blindT (CutX.take rO_f2 (CutX.take bO_f (CutX.take sO_f CutX.none))) (fun hf U hU hW hp => ⟨hp, hq.pass hw.2.2.2.1 hf hU hW⟩) (va_recv hw.1 hw.2.1 rfl (gx_h rO_o)) ⟨rfl, rfl⟩ ⟨Nat.le_of_ble_eq_true rfl, Nat.le_of_ble_eq_true rfl⟩ rfl ⟨Nat.zero_le _, Nat.zero_le _⟩ rfl (Nat.le_of_ble_eq_true rfl) dX4_readScript_74 (fun H locs hw => ?_)
          refine r_istore0 C hl [(3, .int u11.1), (0, .ref (ar 99)), (4, .int v4)] (by decide) rfl dX4_readScript_77 (fun ls hl => ?_)
          refine r_iinc C hl 2 (v4 + 1) [(4, .int (v4 + 1)), (3, .int u11.1), (0, .ref (ar 99))] rfl (iinc_e (by decide)) (by decide) rfl dX4_readScript_78 (fun ls hl => ?_)
          refine lv_goto (tgt := 49) C.1 C.2.1 dX4_readScript_81 (by decide) ?_
          exact hk49 u11.2.1 u11.2.2 u11.1 (v4 + 1) hf _ _ hw _ (lv_sub hl [2, 1, 0] rfl)
  have hL_49 : ∀ n : Nat, ∀ (r_ar : Pic) (s_at_ : Pic) (v3 : Int32) (v4 : Int32), L_X4_readScript_49 b_ab x2  n r_ar s_at_ v3 v4 = some out → ∀ (H : Heap) (locs : List Loc), Wd G A s H locs (rO G ar ab at_ r_ar ++ (bO G ab b_ab ++ (sO G at_ s_at_ ++ []))) → ∀ ls : Array Slot, lv_has ls 5 [(0, .ref (ar 99)), (3, .int v3), (4, .int v4)] → W p l e ({ frames := 8, cells := 0, slots := 0, locals := 174 }) s m [.ref (ar 99), .ref (ab 0), .int x2].toArray below meth c H locs 0 0 (MQ below (Ans G out.1 A (rO G ar ab at_ out.2.1 ++ (bO G ab b_ab ++ (sO G at_ out.2.2 ++ [])))) [.ref (ar 99), .ref (ab 0), .int x2].toArray s 0 0 A) (F0 m 49 ls []) := by
    intro  n
    induction n with
    | zero => intro r_ar s_at_ v3 v4 hf; cases hf
    | succ n ih => exact hB_49 _ ih
  unfold f_X4_readScript at hf
  refine r_aload0 C hl 0 rfl dX4_readScript_0 ?_
  refine r_aload0 C hl 1 rfl dX4_readScript_1 ?_
  refine r_put C hw _ (gx_h rO_o) 0 fp_X4_9 rfl rfl (Nat.le_of_ble_eq_true rfl) (rO G ar ab at_ r_ar ++ (bO G ab b_ab ++ (sO G at_ s_at_ ++ []))) (sx_h rO_o (rO_pb)) dX4_readScript_2 (fun H locs hw => ?_)
  refine r_aload0 C hl 0 rfl dX4_readScript_5 ?_
  refine r_iload0 C hl 2 rfl dX4_readScript_6 ?_
  refine r_aload0 C hl 1 rfl dX4_readScript_7 ?_
  refine r_alen C hw _ (gx_t (gx_h bO_g0)) (v := 900) (show Int32.ofNat 900 = 900 from by decide) dX4_readScript_8 ?_
  refine r_min C hl.1 ml_X4_22 (Nat.le_of_ble_eq_true rfl) (Nat.le_of_ble_eq_true rfl) ⟨Nat.zero_le _, Nat.zero_le _⟩ dX4_readScript_9 ?_
  obtain ⟨r_ar3, e3, hf⟩ := bx hf
  refine r_put C hw _ (gx_h rO_o) 1 fp_X4_28 rfl rfl (Nat.le_of_ble_eq_true rfl) (rO G ar ab at_ r_ar3 ++ (bO G ab b_ab ++ (sO G at_ s_at_ ++ []))) (sx_h rO_o (rO_p1 e3)) dX4_readScript_12 (fun H locs hw => ?_)
  refine r_aload0 C hl 0 rfl dX4_readScript_15 ?_
  refine r_get C hw _ (gx_h rO_o) 8 fl_X4_18 rfl dX4_readScript_16 ?_
  obtain ⟨u4, e4, hf⟩ := bx hf
  refine r_callVv (ws' := (rO G ar ab at_ r_ar3 ++ (bO G ab b_ab ++ (sO G at_ u4 ++ [])))) (As := []) (rest := []) C hw hl.1 kX5_clear ml_X4_32 (c_X5_clear l G at_ _ s_at_ u4 e4) (CutX.skip (CutX.skip (CutX.take sO_f CutX.none))) _ (gx_t (gx_t (gx_h sO_o))) rfl ⟨rfl, rfl⟩ ⟨Nat.le_of_ble_eq_true rfl, Nat.le_of_ble_eq_true rfl⟩ rfl ⟨Nat.zero_le _, Nat.zero_le _⟩ rfl (Nat.le_of_ble_eq_true rfl) dX4_readScript_19 (fun H locs hw => ?_)
  refine r_aload0 C hl 0 rfl dX4_readScript_22 ?_
  refine lv_iconst (v := 0) C.1 C.2.1 dX4_readScript_23 (by decide) ?_
  obtain ⟨r_ar5, e5, hf⟩ := bx hf
  refine r_put C hw _ (gx_h rO_o) 2 fp_X4_35 rfl rfl (Nat.le_of_ble_eq_true rfl) (rO G ar ab at_ r_ar5 ++ (bO G ab b_ab ++ (sO G at_ u4 ++ []))) (sx_h rO_o (rO_p2 e5)) dX4_readScript_24 (fun H locs hw => ?_)
  refine r_aload0 C hl 0 rfl dX4_readScript_27 ?_
  refine lv_iconst (v := 0) C.1 C.2.1 dX4_readScript_28 (by decide) ?_
  obtain ⟨r_ar6, e6, hf⟩ := bx hf
  refine r_put C hw _ (gx_h rO_o) 5 fp_X4_38 (by decide) rfl (Nat.le_of_ble_eq_true rfl) (rO G ar ab at_ r_ar6 ++ (bO G ab b_ab ++ (sO G at_ u4 ++ []))) (sx_h rO_o (rO_p5 e6)) dX4_readScript_29 (fun H locs hw => ?_)
  refine r_aload0 C hl 0 rfl dX4_readScript_32 ?_
  refine lv_iconst (v := 0) C.1 C.2.1 dX4_readScript_33 (by decide) ?_
  obtain ⟨r_ar7, e7, hf⟩ := bx hf
  refine r_put C hw _ (gx_h rO_o) 6 fp_X4_42 rfl rfl (Nat.le_of_ble_eq_true rfl) (rO G ar ab at_ r_ar7 ++ (bO G ab b_ab ++ (sO G at_ u4 ++ []))) (sx_h rO_o (rO_p6 e7)) dX4_readScript_34 (fun H locs hw => ?_)
  refine r_aload0 C hl 0 rfl dX4_readScript_37 ?_
  obtain ⟨u8, e8, hf⟩ := bx hf
  refine r_callVv (ws' := (rO G ar ab at_ u8 ++ (bO G ab b_ab ++ (sO G at_ u4 ++ [])))) (As := []) (rest := []) C hw hl.1 kX4_advance ml_X4_45 (c_X4_advance l G ar ab at_ _ r_ar7 b_ab u8 e8) (CutX.take rO_f2 (CutX.take bO_f CutX.none)) _ (gx_h rO_o) rfl ⟨rfl, rfl⟩ ⟨Nat.le_of_ble_eq_true rfl, Nat.le_of_ble_eq_true rfl⟩ rfl ⟨Nat.zero_le _, Nat.zero_le _⟩ rfl (Nat.le_of_ble_eq_true rfl) dX4_readScript_38 (fun H locs hw => ?_)
  refine r_aload0 C hl 0 rfl dX4_readScript_41 ?_
  obtain ⟨u9, e9, hf⟩ := bx hf
  refine g_callVi (ws' := (rO G ar ab at_ u9.2.1 ++ (bO G ab b_ab ++ (sO G at_ u9.2.2 ++ [])))) (As := []) (rest := []) C hw hl.1 kX4_readLine ml_X4_48 (c_X4_readLine l G K ar ab at_ _ u8 b_ab u4 u9 e9) blindT (CutX.take rO_f2 (CutX.take bO_f (CutX.take sO_f CutX.none))) (fun hf U hU hW hp => ⟨hp, hq.pass hw.2.2.2.1 hf hU hW⟩) (va_recv hw.1 hw.2.1 rfl (gx_h rO_o)) ⟨rfl, rfl⟩ ⟨Nat.le_of_ble_eq_true rfl, Nat.le_of_ble_eq_true rfl⟩ rfl ⟨Nat.zero_le _, Nat.zero_le _⟩ rfl (Nat.le_of_ble_eq_true rfl) dX4_readScript_42 (fun H locs hw => ?_)
  refine r_istore0 C hl [(3, .int u9.1), (0, .ref (ar 99)), (1, .ref (ab 0)), (2, .int x2)] (by decide) rfl dX4_readScript_45 (fun ls hl => ?_)
  refine lv_iconst (v := 1) C.1 C.2.1 dX4_readScript_46 (by decide) ?_
  refine r_istore C hl [(4, .int 1), (3, .int u9.1), (0, .ref (ar 99)), (1, .ref (ab 0)), (2, .int x2)] (by decide) rfl dX4_readScript_47 (fun ls hl => ?_)
  exact hL_49  FU u9.2.1 u9.2.2 u9.1 1 hf _ _ hw _ (lv_sub hl [2, 1, 0] rfl)
