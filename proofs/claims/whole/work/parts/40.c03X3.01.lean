set_option maxHeartbeats 4000000 in
set_option maxRecDepth 100000 in
theorem c_X3_framesBy (l : Launch) (G : GG) (ad : Nat → Nat) (sz : Nat) (p_ad : Pic) (x1 : Int32) (out : Int32) (hf : f_X3_framesBy p_ad x1 = some out) : Met l yX3_framesBy (.code yX3_framesBy cX3_framesBy 5 (some .int) :: BT) ({ frames := 2, cells := 0, slots := 0, locals := 45 }) (va_Pc [.ref (ad 99), .int x1] (PreW G sz (pO G ad p_ad ++ []))) (Ans G out (va_A (pO G ad p_ad ++ []) sz) (pO G ad p_ad ++ [])) 0 0 (va_A (pO G ad p_ad ++ []) sz) := by
  refine Met.into (by decide) (Nat.le_of_ble_eq_true rfl) ?_
  intro p e s m below meth c C hsz ls hl hw
  have hl : lv_has ls 5 [(0, .ref (ad 99)), (1, .int x1)] := hl
  clear hsz
  generalize va_A (pO G ad p_ad ++ []) sz = A at hw ⊢
  have hB_4 : ∀ (k4 : Int32 → Int32 → Option (Int32)) (hk4 : ∀ (v2 : Int32) (v3 : Int32), k4 v2 v3 = some out → ∀ (H : Heap) (locs : List Loc), Wd G A s H locs (pO G ad p_ad ++ []) → ∀ ls : Array Slot, lv_has ls 5 [(0, .ref (ad 99)), (1, .int x1), (2, .int v2), (3, .int v3)] → W p l e ({ frames := 2, cells := 0, slots := 0, locals := 45 }) s m [.ref (ad 99), .int x1].toArray below meth c H locs 0 0 (MQ below (Ans G out A (pO G ad p_ad ++ [])) [.ref (ad 99), .int x1].toArray s 0 0 A) (F0 m 4 ls [])), ∀ (v2 : Int32) (v3 : Int32), b_X3_framesBy_4 p_ad x1 k4 v2 v3 = some out → ∀ (H : Heap) (locs : List Loc), Wd G A s H locs (pO G ad p_ad ++ []) → ∀ ls : Array Slot, lv_has ls 5 [(0, .ref (ad 99)), (1, .int x1), (2, .int v2), (3, .int v3)] → W p l e ({ frames := 2, cells := 0, slots := 0, locals := 45 }) s m [.ref (ad 99), .int x1].toArray below meth c H locs 0 0 (MQ below (Ans G out A (pO G ad p_ad ++ [])) [.ref (ad 99), .int x1].toArray s 0 0 A) (F0 m 4 ls []) := by
    intro k4 hk4 v2 v3 hf H locs hw ls hl
    unfold b_X3_framesBy_4 at hf
    refine r_iload0 C hl 3 rfl dX3_framesBy_4 ?_
    refine lv_bipush (v := 16) C.1 C.2.1 dX3_framesBy_5 (by decide) ?_
    refine lv_icmp_gt (tgt := 49) C.1 C.2.1 dX3_framesBy_7 (by decide) (fun hc => ?_) (fun hc => ?_)
    · replace hf := ifp hf hc
      refine r_iload0 C hl 2 rfl dX3_framesBy_49 ?_
      exact fin_i C hw (Option.some.inj hf) (fun o => o) (fun o => (pO G ad p_ad ++ [])) rfl rfl dX3_framesBy_50
    · replace hf := ifn hf hc
      refine r_iload0 C hl 3 rfl dX3_framesBy_10 ?_
      obtain ⟨u1, e1, hf⟩ := bx hf
      refine r_callSi (ws' := (pO G ad p_ad ++ [])) (As := [.int v3]) (rest := []) C hw hl.1 kX0_slotsOf ml_X3_108 (c_X0_slotsOf l G _ v3 u1 e1) CutX.none ⟨rfl, rfl⟩ ⟨Nat.le_of_ble_eq_true rfl, Nat.le_of_ble_eq_true rfl⟩ rfl ⟨Nat.zero_le _, Nat.zero_le _⟩ rfl (Nat.le_of_ble_eq_true rfl) dX3_framesBy_11 (fun H locs hw => ?_)
      refine r_istore C hl [(4, .int u1), (0, .ref (ad 99)), (1, .int x1), (2, .int v2), (3, .int v3)] (by decide) rfl dX3_framesBy_14 (fun ls hl => ?_)
      refine r_iload C hl 0 rfl dX3_framesBy_16 ?_
      refine lv_if_le (tgt := 43) C.1 C.2.1 dX3_framesBy_18 (by decide) (fun hc => ?_) (fun hc => ?_)
      · replace hf := ifp hf hc
        refine r_iinc C hl 4 (v3 + 1) [(3, .int (v3 + 1)), (4, .int u1), (0, .ref (ad 99)), (1, .int x1), (2, .int v2)] rfl (iinc_e (by decide)) (by decide) rfl dX3_framesBy_43 (fun ls hl => ?_)
        refine lv_goto (tgt := 4) C.1 C.2.1 dX3_framesBy_46 (by decide) ?_
        exact hk4 v2 (v3 + 1) hf _ _ hw _ (lv_sub hl [2, 3, 4, 0] rfl)
      · replace hf := ifn hf hc
        refine r_iload0 C hl 3 rfl dX3_framesBy_21 ?_
        refine r_aload0 C hl 1 rfl dX3_framesBy_22 ?_
        refine r_iload0 C hl 4 rfl dX3_framesBy_23 ?_
        refine r_iload0 C hl 2 rfl dX3_framesBy_24 ?_
        obtain ⟨u2, e2, hf⟩ := bx hf
        refine r_callVi (ws' := (pO G ad p_ad ++ [])) (As := [.int v3, .int x1]) (rest := [.int v2]) C hw hl.1 kX3_pagesAtHome ml_X3_111 (c_X3_pagesAtHome l G ad _ p_ad v3 x1 u2 e2) (CutX.take pO_f CutX.none) _ (gx_h pO_o) rfl ⟨rfl, rfl⟩ ⟨Nat.le_of_ble_eq_true rfl, Nat.le_of_ble_eq_true rfl⟩ rfl ⟨Nat.zero_le _, Nat.zero_le _⟩ rfl (Nat.le_of_ble_eq_true rfl) dX3_framesBy_25 (fun H locs hw => ?_)
        refine r_iload C hl 0 rfl dX3_framesBy_28 ?_
        refine lv_iadd C.1 C.2.1 dX3_framesBy_30 ?_
        refine lv_iconst (v := 1) C.1 C.2.1 dX3_framesBy_31 (by decide) ?_
        refine lv_isub C.1 C.2.1 dX3_framesBy_32 ?_
        refine r_iload C hl 0 rfl dX3_framesBy_33 ?_
        obtain ⟨v3_, e3, hf⟩ := bx hf
        refine r_idiv C e3 dX3_framesBy_35 ?_
        refine r_iload0 C hl 4 rfl dX3_framesBy_36 ?_
        obtain ⟨u4, e4, hf⟩ := bx hf
        refine r_callSi (ws' := (pO G ad p_ad ++ [])) (As := [.int v3]) (rest := [.int v3_, .int v2]) C hw hl.1 kX0_framesOf ml_X3_105 (c_X0_framesOf l G _ v3 u4 e4) CutX.none ⟨rfl, rfl⟩ ⟨Nat.le_of_ble_eq_true rfl, Nat.le_of_ble_eq_true rfl⟩ rfl ⟨Nat.zero_le _, Nat.zero_le _⟩ rfl (Nat.le_of_ble_eq_true rfl) dX3_framesBy_37 (fun H locs hw => ?_)
        refine lv_imul C.1 C.2.1 dX3_framesBy_40 ?_
        refine lv_iadd C.1 C.2.1 dX3_framesBy_41 ?_
        refine r_istore0 C hl [(2, .int (v2 + (v3_ * u4))), (4, .int u1), (0, .ref (ad 99)), (1, .int x1), (3, .int v3)] (by decide) rfl dX3_framesBy_42 (fun ls hl => ?_)
        refine r_iinc C hl 4 (v3 + 1) [(3, .int (v3 + 1)), (2, .int (v2 + (v3_ * u4))), (4, .int u1), (0, .ref (ad 99)), (1, .int x1)] rfl (iinc_e (by decide)) (by decide) rfl dX3_framesBy_43 (fun ls hl => ?_)
        refine lv_goto (tgt := 4) C.1 C.2.1 dX3_framesBy_46 (by decide) ?_
        exact hk4 (v2 + (v3_ * u4)) (v3 + 1) hf _ _ hw _ (lv_sub hl [3, 4, 1, 0] rfl)
  have hL_4 : ∀ n : Nat, ∀ (v2 : Int32) (v3 : Int32), L_X3_framesBy_4 p_ad x1  n v2 v3 = some out → ∀ (H : Heap) (locs : List Loc), Wd G A s H locs (pO G ad p_ad ++ []) → ∀ ls : Array Slot, lv_has ls 5 [(0, .ref (ad 99)), (1, .int x1), (2, .int v2), (3, .int v3)] → W p l e ({ frames := 2, cells := 0, slots := 0, locals := 45 }) s m [.ref (ad 99), .int x1].toArray below meth c H locs 0 0 (MQ below (Ans G out A (pO G ad p_ad ++ [])) [.ref (ad 99), .int x1].toArray s 0 0 A) (F0 m 4 ls []) := by
    intro  n
    induction n with
    | zero => intro v2 v3 hf; cases hf
    | succ n ih => exact hB_4 _ ih
  unfold f_X3_framesBy at hf
  refine lv_iconst (v := 0) C.1 C.2.1 dX3_framesBy_0 (by decide) ?_
  refine r_istore0 C hl [(2, .int 0), (0, .ref (ad 99)), (1, .int x1)] (by decide) rfl dX3_framesBy_1 (fun ls hl => ?_)
  refine lv_iconst (v := 1) C.1 C.2.1 dX3_framesBy_2 (by decide) ?_
  refine r_istore0 C hl [(3, .int 1), (2, .int 0), (0, .ref (ad 99)), (1, .int x1)] (by decide) rfl dX3_framesBy_3 (fun ls hl => ?_)
  exact hL_4  FU 0 1 hf _ _ hw _ (lv_sub hl [2, 3, 1, 0] rfl)
set_option maxHeartbeats 4000000 in
set_option maxRecDepth 100000 in
theorem c_X3_loadPage (l : Launch) (G : GG) (ad : Nat → Nat) (sz : Nat) (p_ad : Pic) (x1 : Int32) (out : Pic) (hf : f_X3_loadPage p_ad x1 = some out) : Met l yX3_loadPage (.code yX3_loadPage cX3_loadPage 2 none :: BT) ({ frames := 1, cells := 0, slots := 0, locals := 23 }) (va_Pc [.ref (ad 99), .int x1] (PreW G sz (pO G ad p_ad ++ []))) (Don G (va_A (pO G ad p_ad ++ []) sz) (pO G ad out ++ [])) 0 0 (va_A (pO G ad p_ad ++ []) sz) := by
  refine Met.into (by decide) (Nat.le_of_ble_eq_true rfl) ?_
  intro p e s m below meth c C hsz ls hl hw
  have hl : lv_has ls 2 [(0, .ref (ad 99)), (1, .int x1)] := hl
  clear hsz
  generalize va_A (pO G ad p_ad ++ []) sz = A at hw ⊢
  unfold f_X3_loadPage at hf
  refine r_iload0 C hl 1 rfl dX3_loadPage_0 ?_
  obtain ⟨u1, e1, hf⟩ := bx hf
  refine r_callSi (ws' := (pO G ad p_ad ++ [])) (As := [.int x1]) (rest := []) C hw hl.1 kX3_isPage ml_X3_81 (c_X3_isPage l G _ x1 u1 e1) CutX.none ⟨rfl, rfl⟩ ⟨Nat.le_of_ble_eq_true rfl, Nat.le_of_ble_eq_true rfl⟩ rfl ⟨Nat.zero_le _, Nat.zero_le _⟩ rfl (Nat.le_of_ble_eq_true rfl) dX3_loadPage_1 (fun H locs hw => ?_)
  refine lv_if_ne (tgt := 8) C.1 C.2.1 dX3_loadPage_4 (by decide) (fun hc => ?_) (fun hc => ?_)
  · replace hf := ifn hf hc
    refine r_aload0 C hl 0 rfl dX3_loadPage_8 ?_
    refine r_get C hw _ (gx_h pO_o) 4 fl_X3_28 rfl dX3_loadPage_9 ?_
    refine r_iload0 C hl 1 rfl dX3_loadPage_12 ?_
    obtain ⟨v2_, e2, hf⟩ := bx hf
    refine r_iald C hw _ (gx_h pO_g4) e2 dX3_loadPage_13 ?_
    refine lv_iconst (v := 2) C.1 C.2.1 dX3_loadPage_14 (by decide) ?_
    refine lv_icmp_ne (tgt := 31) C.1 C.2.1 dX3_loadPage_15 (by decide) (fun hc => ?_) (fun hc => ?_)
    · replace hf := ifn hf hc
      refine r_aload0 C hl 0 rfl dX3_loadPage_31 ?_
      refine r_get C hw _ (gx_h pO_o) 4 fl_X3_28 rfl dX3_loadPage_32 ?_
      refine r_iload0 C hl 1 rfl dX3_loadPage_35 ?_
      obtain ⟨v3_, e3, hf⟩ := bx hf
      refine r_iald C hw _ (gx_h pO_g4) e3 dX3_loadPage_36 ?_
      refine lv_iconst (v := 3) C.1 C.2.1 dX3_loadPage_37 (by decide) ?_
      refine lv_icmp_ne (tgt := 51) C.1 C.2.1 dX3_loadPage_38 (by decide) (fun hc => ?_) (fun hc => ?_)
      · replace hf := ifn hf hc
        exact fin_v C hw (Option.some.inj hf) (fun o => (pO G ad o ++ [])) rfl dX3_loadPage_51
      · replace hf := ifp hf hc
        refine r_aload0 C hl 0 rfl dX3_loadPage_41 ?_
        refine r_get C hw _ (gx_h pO_o) 12 fl_X3_50 rfl dX3_loadPage_42 ?_
        refine lv_iconst (v := 2) C.1 C.2.1 dX3_loadPage_45 (by decide) ?_
        refine lv_dup2_11 C.1 C.2.1 dX3_loadPage_46 rfl rfl ?_
        obtain ⟨v4_, e4, hf⟩ := bx hf
        refine r_iald C hw _ (gx_h pO_g12) e4 dX3_loadPage_47 ?_
        refine lv_iconst (v := 1) C.1 C.2.1 dX3_loadPage_48 (by decide) ?_
        refine lv_iadd C.1 C.2.1 dX3_loadPage_49 ?_
        obtain ⟨p_ad5, e5, hf⟩ := bx hf
        refine r_iast C hw _ (gx_h pO_g12) e5 (pO G ad p_ad5 ++ []) (fun h => (sx_h pO_g12 (pO_s12 h))) dX3_loadPage_50 (fun H locs hw => ?_)
        exact fin_v C hw (Option.some.inj hf) (fun o => (pO G ad o ++ [])) rfl dX3_loadPage_51
    · replace hf := ifp hf hc
      refine r_aload0 C hl 0 rfl dX3_loadPage_18 ?_
      refine r_iload0 C hl 1 rfl dX3_loadPage_19 ?_
      obtain ⟨u6, e6, hf⟩ := bx hf
      refine r_callVv (ws' := (pO G ad u6 ++ [])) (As := [.int x1]) (rest := []) C hw hl.1 kX3_leaveAges ml_X3_129 (c_X3_leaveAges l G ad _ p_ad x1 u6 e6) (CutX.take pO_f CutX.none) _ (gx_h pO_o) rfl ⟨rfl, rfl⟩ ⟨Nat.le_of_ble_eq_true rfl, Nat.le_of_ble_eq_true rfl⟩ rfl ⟨Nat.zero_le _, Nat.zero_le _⟩ rfl (Nat.le_of_ble_eq_true rfl) dX3_loadPage_20 (fun H locs hw => ?_)
      refine r_aload0 C hl 0 rfl dX3_loadPage_23 ?_
      refine r_iload0 C hl 1 rfl dX3_loadPage_24 ?_
      obtain ⟨u7, e7, hf⟩ := bx hf
      refine r_callVv (ws' := (pO G ad u7 ++ [])) (As := [.int x1]) (rest := []) C hw hl.1 kX3_addYoungest ml_X3_132 (c_X3_addYoungest l G ad _ u6 x1 u7 e7) (CutX.take pO_f CutX.none) _ (gx_h pO_o) rfl ⟨rfl, rfl⟩ ⟨Nat.le_of_ble_eq_true rfl, Nat.le_of_ble_eq_true rfl⟩ rfl ⟨Nat.zero_le _, Nat.zero_le _⟩ rfl (Nat.le_of_ble_eq_true rfl) dX3_loadPage_25 (fun H locs hw => ?_)
      refine lv_goto (tgt := 51) C.1 C.2.1 dX3_loadPage_28 (by decide) ?_
      exact fin_v C hw (Option.some.inj hf) (fun o => (pO G ad o ++ [])) rfl dX3_loadPage_51
  · replace hf := ifp hf hc
    exact fin_v C hw (Option.some.inj hf) (fun o => (pO G ad o ++ [])) rfl dX3_loadPage_7
set_option maxHeartbeats 4000000 in
set_option maxRecDepth 100000 in
theorem c_X3_compactClass (l : Launch) (G : GG) (ad : Nat → Nat) (sz : Nat) (p_ad : Pic) (z_ad : Pic) (x1 : Int32) (out : Pic × Pic) (hf : f_X3_compactClass p_ad z_ad x1 = some out) : Met l yX3_compactClass (.code yX3_compactClass cX3_compactClass 6 none :: BT) ({ frames := 3, cells := 0, slots := 0, locals := 66 }) (va_Pc [.ref (ad 99), .int x1] (PreW G sz (pO G ad p_ad ++ (zO G ad z_ad ++ [])))) (Don G (va_A (pO G ad p_ad ++ (zO G ad z_ad ++ [])) sz) (pO G ad out.1 ++ (zO G ad out.2 ++ []))) 0 0 (va_A (pO G ad p_ad ++ (zO G ad z_ad ++ [])) sz) := by
  refine Met.into (by decide) (Nat.le_of_ble_eq_true rfl) ?_
  intro p e s m below meth c C hsz ls hl hw
  have hl : lv_has ls 6 [(0, .ref (ad 99)), (1, .int x1)] := hl
  clear hsz
  generalize va_A (pO G ad p_ad ++ (zO G ad z_ad ++ [])) sz = A at hw ⊢
  have hB_50 : ∀ (k2 : Pic → Pic → Int32 → Option (Pic × Pic)) (hk2 : ∀ (p_ad : Pic) (z_ad : Pic) (v2 : Int32), k2 p_ad z_ad v2 = some out → ∀ (H : Heap) (locs : List Loc), Wd G A s H locs (pO G ad p_ad ++ (zO G ad z_ad ++ [])) → ∀ ls : Array Slot, lv_has ls 6 [(0, .ref (ad 99)), (1, .int x1), (2, .int v2)] → W p l e ({ frames := 3, cells := 0, slots := 0, locals := 66 }) s m [.ref (ad 99), .int x1].toArray below meth c H locs 0 0 (MQ below (Don G A (pO G ad out.1 ++ (zO G ad out.2 ++ []))) [.ref (ad 99), .int x1].toArray s 0 0 A) (F0 m 2 ls [])), ∀ (p_ad : Pic) (z_ad : Pic) (v2 : Int32) (v4 : Int32) (t0 : Int32), b_X3_compactClass_50 x1 k2 p_ad z_ad v2 v4 t0 = some out → ∀ (H : Heap) (locs : List Loc), Wd G A s H locs (pO G ad p_ad ++ (zO G ad z_ad ++ [])) → ∀ ls : Array Slot, lv_has ls 6 [(0, .ref (ad 99)), (1, .int x1), (2, .int v2), (4, .int v4)] → W p l e ({ frames := 3, cells := 0, slots := 0, locals := 66 }) s m [.ref (ad 99), .int x1].toArray below meth c H locs 0 0 (MQ below (Don G A (pO G ad out.1 ++ (zO G ad out.2 ++ []))) [.ref (ad 99), .int x1].toArray s 0 0 A) (F0 m 50 ls [.int t0]) := by
    intro k2 hk2 p_ad z_ad v2 v4 t0 hf H locs hw ls hl
    unfold b_X3_compactClass_50 at hf
    refine r_istore C hl [(5, .int t0), (0, .ref (ad 99)), (1, .int x1), (2, .int v2), (4, .int v4)] (by decide) rfl dX3_compactClass_50 (fun ls hl => ?_)
    refine r_iload C hl 0 rfl dX3_compactClass_52 ?_
    obtain ⟨u3, e3, hf⟩ := bx hf
    refine r_callSi (ws' := (pO G ad p_ad ++ (zO G ad z_ad ++ []))) (As := [.int t0]) (rest := []) C hw hl.1 kX3_isPage ml_X3_81 (c_X3_isPage l G _ t0 u3 e3) CutX.none ⟨rfl, rfl⟩ ⟨Nat.le_of_ble_eq_true rfl, Nat.le_of_ble_eq_true rfl⟩ rfl ⟨Nat.zero_le _, Nat.zero_le _⟩ rfl (Nat.le_of_ble_eq_true rfl) dX3_compactClass_54 (fun H locs hw => ?_)
    refine lv_if_ne (tgt := 61) C.1 C.2.1 dX3_compactClass_57 (by decide) (fun hc => ?_) (fun hc => ?_)
    · replace hf := ifn hf hc
      refine r_aload0 C hl 1 rfl dX3_compactClass_61 ?_
      refine r_get C hw _ (gx_h pO_o) 3 fl_X3_24 rfl dX3_compactClass_62 ?_
      refine r_aload0 C hl 1 rfl dX3_compactClass_65 ?_
      refine r_get C hw _ (gx_h pO_o) 6 fl_X3_35 rfl dX3_compactClass_66 ?_
      refine r_iload C hl 0 rfl dX3_compactClass_69 ?_
      obtain ⟨v4_, e4, hf⟩ := bx hf
      refine r_iald C hw _ (gx_h pO_g6) e4 dX3_compactClass_71 ?_
      refine r_aload0 C hl 1 rfl dX3_compactClass_72 ?_
      refine r_get C hw _ (gx_h pO_o) 7 fl_X3_38 rfl dX3_compactClass_73 ?_
      refine r_iload C hl 0 rfl dX3_compactClass_76 ?_
      obtain ⟨v5_, e5, hf⟩ := bx hf
      refine r_iald C hw _ (gx_h pO_g7) e5 dX3_compactClass_78 ?_
      obtain ⟨u6, e6, hf⟩ := bx hf
      refine r_callVv (ws' := (pO G ad p_ad ++ (zO G ad u6 ++ []))) (As := [.int v4_, .int v5_]) (rest := []) C hw hl.1 kX7_takeOut ml_X3_153 (c_X7_takeOut l G ad _ z_ad v4_ v5_ u6 e6) (CutX.skip (CutX.take zO_f CutX.none)) _ (gx_t (gx_h zO_o)) rfl ⟨rfl, rfl⟩ ⟨Nat.le_of_ble_eq_true rfl, Nat.le_of_ble_eq_true rfl⟩ rfl ⟨Nat.zero_le _, Nat.zero_le _⟩ rfl (Nat.le_of_ble_eq_true rfl) dX3_compactClass_79 (fun H locs hw => ?_)
      refine r_aload0 C hl 1 rfl dX3_compactClass_82 ?_
      refine r_get C hw _ (gx_h pO_o) 6 fl_X3_35 rfl dX3_compactClass_83 ?_
      refine r_iload C hl 0 rfl dX3_compactClass_86 ?_
      refine r_iload C hl 4 rfl dX3_compactClass_88 ?_
      obtain ⟨p_ad7, e7, hf⟩ := bx hf
      refine r_iast C hw _ (gx_h pO_g6) e7 (pO G ad p_ad7 ++ (zO G ad u6 ++ [])) (fun h => (sx_h pO_g6 (pO_s6 h))) dX3_compactClass_90 (fun H locs hw => ?_)
      refine r_aload0 C hl 1 rfl dX3_compactClass_91 ?_
      refine r_get C hw _ (gx_h pO_o) 7 fl_X3_38 rfl dX3_compactClass_92 ?_
      refine r_iload C hl 0 rfl dX3_compactClass_95 ?_
      refine r_aload0 C hl 1 rfl dX3_compactClass_97 ?_
      refine r_get C hw _ (gx_h pO_o) 3 fl_X3_24 rfl dX3_compactClass_98 ?_
      refine r_iload C hl 4 rfl dX3_compactClass_101 ?_
      refine r_iload0 C hl 2 rfl dX3_compactClass_103 ?_
      refine r_iload C hl 0 rfl dX3_compactClass_104 ?_
      obtain ⟨u8, e8, hf⟩ := bx hf
      refine r_callVi (ws' := (pO G ad p_ad7 ++ (zO G ad u8.2 ++ []))) (As := [.int v4, .int x1, .int t0]) (rest := [.int t0, .ref (ad 7)]) C hw hl.1 kX7_putIn ml_X3_157 (c_X7_putIn l G ad _ u6 v4 x1 t0 u8 e8) (CutX.skip (CutX.take zO_f CutX.none)) _ (gx_t (gx_h zO_o)) rfl ⟨rfl, rfl⟩ ⟨Nat.le_of_ble_eq_true rfl, Nat.le_of_ble_eq_true rfl⟩ rfl ⟨Nat.zero_le _, Nat.zero_le _⟩ rfl (Nat.le_of_ble_eq_true rfl) dX3_compactClass_106 (fun H locs hw => ?_)
      obtain ⟨p_ad9, e9, hf⟩ := bx hf
      refine r_iast C hw _ (gx_h pO_g7) e9 (pO G ad p_ad9 ++ (zO G ad u8.2 ++ [])) (fun h => (sx_h pO_g7 (pO_s7 h))) dX3_compactClass_109 (fun H locs hw => ?_)
      refine r_aload0 C hl 1 rfl dX3_compactClass_110 ?_
      refine r_get C hw _ (gx_h pO_o) 12 fl_X3_50 rfl dX3_compactClass_111 ?_
      refine lv_iconst (v := 3) C.1 C.2.1 dX3_compactClass_114 (by decide) ?_
      refine lv_dup2_11 C.1 C.2.1 dX3_compactClass_115 rfl rfl ?_
      obtain ⟨v10_, e10, hf⟩ := bx hf
      refine r_iald C hw _ (gx_h pO_g12) e10 dX3_compactClass_116 ?_
      refine lv_iconst (v := 1) C.1 C.2.1 dX3_compactClass_117 (by decide) ?_
      refine lv_iadd C.1 C.2.1 dX3_compactClass_118 ?_
      obtain ⟨p_ad11, e11, hf⟩ := bx hf
      refine r_iast C hw _ (gx_h pO_g12) e11 (pO G ad p_ad11 ++ (zO G ad u8.2 ++ [])) (fun h => (sx_h pO_g12 (pO_s12 h))) dX3_compactClass_119 (fun H locs hw => ?_)
      refine r_iinc C hl 3 (v2 + 1) [(2, .int (v2 + 1)), (5, .int t0), (0, .ref (ad 99)), (1, .int x1), (4, .int v4)] rfl (iinc_e (by decide)) (by decide) rfl dX3_compactClass_120 (fun ls hl => ?_)
      refine lv_goto (tgt := 2) C.1 C.2.1 dX3_compactClass_123 (by decide) ?_
      exact hk2 p_ad11 u8.2 (v2 + 1) hf _ _ hw _ (lv_sub hl [2, 3, 0] rfl)
    · replace hf := ifp hf hc
      exact fin_v C hw (Option.some.inj hf) (fun o => (pO G ad o.1 ++ (zO G ad o.2 ++ []))) rfl dX3_compactClass_60
  have hB_49 : ∀ (k2 : Pic → Pic → Int32 → Option (Pic × Pic)) (hk2 : ∀ (p_ad : Pic) (z_ad : Pic) (v2 : Int32), k2 p_ad z_ad v2 = some out → ∀ (H : Heap) (locs : List Loc), Wd G A s H locs (pO G ad p_ad ++ (zO G ad z_ad ++ [])) → ∀ ls : Array Slot, lv_has ls 6 [(0, .ref (ad 99)), (1, .int x1), (2, .int v2)] → W p l e ({ frames := 3, cells := 0, slots := 0, locals := 66 }) s m [.ref (ad 99), .int x1].toArray below meth c H locs 0 0 (MQ below (Don G A (pO G ad out.1 ++ (zO G ad out.2 ++ []))) [.ref (ad 99), .int x1].toArray s 0 0 A) (F0 m 2 ls [])), ∀ (p_ad : Pic) (z_ad : Pic) (v2 : Int32) (v4 : Int32), b_X3_compactClass_49 x1 k2 p_ad z_ad v2 v4 = some out → ∀ (H : Heap) (locs : List Loc), Wd G A s H locs (pO G ad p_ad ++ (zO G ad z_ad ++ [])) → ∀ ls : Array Slot, lv_has ls 6 [(0, .ref (ad 99)), (1, .int x1), (2, .int v2), (4, .int v4)] → W p l e ({ frames := 3, cells := 0, slots := 0, locals := 66 }) s m [.ref (ad 99), .int x1].toArray below meth c H locs 0 0 (MQ below (Don G A (pO G ad out.1 ++ (zO G ad out.2 ++ []))) [.ref (ad 99), .int x1].toArray s 0 0 A) (F0 m 49 ls []) := by
    intro k2 hk2 p_ad z_ad v2 v4 hf H locs hw ls hl
    unfold b_X3_compactClass_49 at hf
    refine lv_iconst (v := (-1)) C.1 C.2.1 dX3_compactClass_49 (by decide) ?_
    exact hB_50 k2 hk2 p_ad z_ad v2 v4 (-1) hf _ _ hw _ (lv_sub hl [0, 1, 2, 3] rfl)
  have hB_2 : ∀ (k2 : Pic → Pic → Int32 → Option (Pic × Pic)) (hk2 : ∀ (p_ad : Pic) (z_ad : Pic) (v2 : Int32), k2 p_ad z_ad v2 = some out → ∀ (H : Heap) (locs : List Loc), Wd G A s H locs (pO G ad p_ad ++ (zO G ad z_ad ++ [])) → ∀ ls : Array Slot, lv_has ls 6 [(0, .ref (ad 99)), (1, .int x1), (2, .int v2)] → W p l e ({ frames := 3, cells := 0, slots := 0, locals := 66 }) s m [.ref (ad 99), .int x1].toArray below meth c H locs 0 0 (MQ below (Don G A (pO G ad out.1 ++ (zO G ad out.2 ++ []))) [.ref (ad 99), .int x1].toArray s 0 0 A) (F0 m 2 ls [])), ∀ (p_ad : Pic) (z_ad : Pic) (v2 : Int32), b_X3_compactClass_2 x1 k2 p_ad z_ad v2 = some out → ∀ (H : Heap) (locs : List Loc), Wd G A s H locs (pO G ad p_ad ++ (zO G ad z_ad ++ [])) → ∀ ls : Array Slot, lv_has ls 6 [(0, .ref (ad 99)), (1, .int x1), (2, .int v2)] → W p l e ({ frames := 3, cells := 0, slots := 0, locals := 66 }) s m [.ref (ad 99), .int x1].toArray below meth c H locs 0 0 (MQ below (Don G A (pO G ad out.1 ++ (zO G ad out.2 ++ []))) [.ref (ad 99), .int x1].toArray s 0 0 A) (F0 m 2 ls []) := by
    intro k2 hk2 p_ad z_ad v2 hf H locs hw ls hl
    unfold b_X3_compactClass_2 at hf
    refine r_iload0 C hl 2 rfl dX3_compactClass_2 ?_
    refine lv_sipush (v := 384) C.1 C.2.1 dX3_compactClass_3 (by decide) ?_
    refine lv_icmp_ge (tgt := 126) C.1 C.2.1 dX3_compactClass_6 (by decide) (fun hc => ?_) (fun hc => ?_)
    · replace hf := ifp hf hc
      exact fin_v C hw (Option.some.inj hf) (fun o => (pO G ad o.1 ++ (zO G ad o.2 ++ []))) rfl dX3_compactClass_126
    · replace hf := ifn hf hc
      refine r_aload0 C hl 0 rfl dX3_compactClass_9 ?_
      refine r_get C hw _ (gx_h pO_o) 3 fl_X3_24 rfl dX3_compactClass_10 ?_
      refine r_iload0 C hl 1 rfl dX3_compactClass_13 ?_
      obtain ⟨u1, e1, hf⟩ := bx hf
      refine r_callVi (ws' := (pO G ad p_ad ++ (zO G ad z_ad ++ []))) (As := [.int x1]) (rest := []) C hw hl.1 kX7_emptiest ml_X3_147 (c_X7_emptiest l G ad _ z_ad x1 u1 e1) (CutX.skip (CutX.take zO_f CutX.none)) _ (gx_t (gx_h zO_o)) rfl ⟨rfl, rfl⟩ ⟨Nat.le_of_ble_eq_true rfl, Nat.le_of_ble_eq_true rfl⟩ rfl ⟨Nat.zero_le _, Nat.zero_le _⟩ rfl (Nat.le_of_ble_eq_true rfl) dX3_compactClass_14 (fun H locs hw => ?_)
      refine r_istore0 C hl [(3, .int u1), (0, .ref (ad 99)), (1, .int x1), (2, .int v2)] (by decide) rfl dX3_compactClass_17 (fun ls hl => ?_)
      refine r_aload0 C hl 1 rfl dX3_compactClass_18 ?_
      refine r_get C hw _ (gx_h pO_o) 3 fl_X3_24 rfl dX3_compactClass_19 ?_
      refine r_iload0 C hl 2 rfl dX3_compactClass_22 ?_
      refine r_iload0 C hl 0 rfl dX3_compactClass_23 ?_
      obtain ⟨u2, e2, hf⟩ := bx hf
      refine r_callVi (ws' := (pO G ad p_ad ++ (zO G ad z_ad ++ []))) (As := [.int x1, .int u1]) (rest := []) C hw hl.1 kX7_fullest ml_X3_95 (c_X7_fullest l G ad _ z_ad x1 u1 u2 e2) (CutX.skip (CutX.take zO_f CutX.none)) _ (gx_t (gx_h zO_o)) rfl ⟨rfl, rfl⟩ ⟨Nat.le_of_ble_eq_true rfl, Nat.le_of_ble_eq_true rfl⟩ rfl ⟨Nat.zero_le _, Nat.zero_le _⟩ rfl (Nat.le_of_ble_eq_true rfl) dX3_compactClass_24 (fun H locs hw => ?_)
      refine r_istore C hl [(4, .int u2), (3, .int u1), (0, .ref (ad 99)), (1, .int x1), (2, .int v2)] (by decide) rfl dX3_compactClass_27 (fun ls hl => ?_)
      refine r_iload0 C hl 1 rfl dX3_compactClass_29 ?_
      refine lv_if_lt (tgt := 49) C.1 C.2.1 dX3_compactClass_30 (by decide) (fun hc => ?_) (fun hc => ?_)
      · replace hf := ifp hf hc
        exact hB_49 k2 hk2 p_ad z_ad v2 u2 hf _ _ hw _ (lv_sub hl [2, 3, 4, 0] rfl)
      · replace hf := ifn hf hc
        refine r_iload C hl 0 rfl dX3_compactClass_33 ?_
        refine lv_if_lt (tgt := 49) C.1 C.2.1 dX3_compactClass_35 (by decide) (fun hc => ?_) (fun hc => ?_)
        · replace hf := ifp hf hc
          exact hB_49 k2 hk2 p_ad z_ad v2 u2 hf _ _ hw _ (lv_sub hl [2, 3, 4, 0] rfl)
        · replace hf := ifn hf hc
          refine r_aload0 C hl 2 rfl dX3_compactClass_38 ?_
          refine r_get C hw _ (gx_h pO_o) 3 fl_X3_24 rfl dX3_compactClass_39 ?_
          refine r_iload0 C hl 1 rfl dX3_compactClass_42 ?_
          obtain ⟨u12, e12, hf⟩ := bx hf
          refine r_callVi (ws' := (pO G ad p_ad ++ (zO G ad z_ad ++ []))) (As := [.int u1]) (rest := []) C hw hl.1 kX7_lastPage ml_X3_150 (c_X7_lastPage l G ad _ z_ad u1 u12 e12) (CutX.skip (CutX.take zO_f CutX.none)) _ (gx_t (gx_h zO_o)) rfl ⟨rfl, rfl⟩ ⟨Nat.le_of_ble_eq_true rfl, Nat.le_of_ble_eq_true rfl⟩ rfl ⟨Nat.zero_le _, Nat.zero_le _⟩ rfl (Nat.le_of_ble_eq_true rfl) dX3_compactClass_43 (fun H locs hw => ?_)
          refine lv_goto (tgt := 50) C.1 C.2.1 dX3_compactClass_46 (by decide) ?_
          exact hB_50 k2 hk2 p_ad z_ad v2 u2 u12 hf _ _ hw _ (lv_sub hl [2, 3, 4, 0] rfl)
  have hL_2 : ∀ n : Nat, ∀ (p_ad : Pic) (z_ad : Pic) (v2 : Int32), L_X3_compactClass_2 x1  n p_ad z_ad v2 = some out → ∀ (H : Heap) (locs : List Loc), Wd G A s H locs (pO G ad p_ad ++ (zO G ad z_ad ++ [])) → ∀ ls : Array Slot, lv_has ls 6 [(0, .ref (ad 99)), (1, .int x1), (2, .int v2)] → W p l e ({ frames := 3, cells := 0, slots := 0, locals := 66 }) s m [.ref (ad 99), .int x1].toArray below meth c H locs 0 0 (MQ below (Don G A (pO G ad out.1 ++ (zO G ad out.2 ++ []))) [.ref (ad 99), .int x1].toArray s 0 0 A) (F0 m 2 ls []) := by
    intro  n
    induction n with
    | zero => intro p_ad z_ad v2 hf; cases hf
    | succ n ih => exact hB_2 _ ih
  unfold f_X3_compactClass at hf
  refine lv_iconst (v := 0) C.1 C.2.1 dX3_compactClass_0 (by decide) ?_
  refine r_istore0 C hl [(2, .int 0), (0, .ref (ad 99)), (1, .int x1)] (by decide) rfl dX3_compactClass_1 (fun ls hl => ?_)
  exact hL_2  FU p_ad z_ad 0 hf _ _ hw _ (lv_sub hl [1, 2, 0] rfl)
set_option maxHeartbeats 4000000 in
set_option maxRecDepth 100000 in
theorem c_X3_leavePool (l : Launch) (G : GG) (ad : Nat → Nat) (sz : Nat) (p_ad : Pic) (z_ad : Pic) (x1 : Int32) (out : Pic × Pic) (hf : f_X3_leavePool p_ad z_ad x1 = some out) : Met l yX3_leavePool (.code yX3_leavePool cX3_leavePool 2 none :: BT) ({ frames := 1, cells := 0, slots := 0, locals := 23 }) (va_Pc [.ref (ad 99), .int x1] (PreW G sz (pO G ad p_ad ++ (zO G ad z_ad ++ [])))) (Don G (va_A (pO G ad p_ad ++ (zO G ad z_ad ++ [])) sz) (pO G ad out.1 ++ (zO G ad out.2 ++ []))) 0 0 (va_A (pO G ad p_ad ++ (zO G ad z_ad ++ [])) sz) := by
  refine Met.into (by decide) (Nat.le_of_ble_eq_true rfl) ?_
  intro p e s m below meth c C hsz ls hl hw
  have hl : lv_has ls 2 [(0, .ref (ad 99)), (1, .int x1)] := hl
  clear hsz
  generalize va_A (pO G ad p_ad ++ (zO G ad z_ad ++ [])) sz = A at hw ⊢
  unfold f_X3_leavePool at hf
  refine r_aload0 C hl 0 rfl dX3_leavePool_0 ?_
  refine r_iload0 C hl 1 rfl dX3_leavePool_1 ?_
  obtain ⟨u1, e1, hf⟩ := bx hf
  refine r_callVv (ws' := (pO G ad u1 ++ (zO G ad z_ad ++ []))) (As := [.int x1]) (rest := []) C hw hl.1 kX3_leaveAges ml_X3_129 (c_X3_leaveAges l G ad _ p_ad x1 u1 e1) (CutX.take pO_f CutX.none) _ (gx_h pO_o) rfl ⟨rfl, rfl⟩ ⟨Nat.le_of_ble_eq_true rfl, Nat.le_of_ble_eq_true rfl⟩ rfl ⟨Nat.zero_le _, Nat.zero_le _⟩ rfl (Nat.le_of_ble_eq_true rfl) dX3_leavePool_2 (fun H locs hw => ?_)
  refine r_aload0 C hl 0 rfl dX3_leavePool_5 ?_
  refine r_get C hw _ (gx_h pO_o) 3 fl_X3_24 rfl dX3_leavePool_6 ?_
  refine r_aload0 C hl 0 rfl dX3_leavePool_9 ?_
  refine r_get C hw _ (gx_h pO_o) 6 fl_X3_35 rfl dX3_leavePool_10 ?_
  refine r_iload0 C hl 1 rfl dX3_leavePool_13 ?_
  obtain ⟨v2_, e2, hf⟩ := bx hf
  refine r_iald C hw _ (gx_h pO_g6) e2 dX3_leavePool_14 ?_
  refine r_aload0 C hl 0 rfl dX3_leavePool_15 ?_
  refine r_get C hw _ (gx_h pO_o) 7 fl_X3_38 rfl dX3_leavePool_16 ?_
  refine r_iload0 C hl 1 rfl dX3_leavePool_19 ?_
  obtain ⟨v3_, e3, hf⟩ := bx hf
  refine r_iald C hw _ (gx_h pO_g7) e3 dX3_leavePool_20 ?_
  obtain ⟨u4, e4, hf⟩ := bx hf
  refine r_callVv (ws' := (pO G ad u1 ++ (zO G ad u4 ++ []))) (As := [.int v2_, .int v3_]) (rest := []) C hw hl.1 kX7_takeOut ml_X3_153 (c_X7_takeOut l G ad _ z_ad v2_ v3_ u4 e4) (CutX.skip (CutX.take zO_f CutX.none)) _ (gx_t (gx_h zO_o)) rfl ⟨rfl, rfl⟩ ⟨Nat.le_of_ble_eq_true rfl, Nat.le_of_ble_eq_true rfl⟩ rfl ⟨Nat.zero_le _, Nat.zero_le _⟩ rfl (Nat.le_of_ble_eq_true rfl) dX3_leavePool_21 (fun H locs hw => ?_)
  refine r_aload0 C hl 0 rfl dX3_leavePool_24 ?_
  refine r_get C hw _ (gx_h pO_o) 8 fl_X3_41 rfl dX3_leavePool_25 ?_
  refine r_iload0 C hl 1 rfl dX3_leavePool_28 ?_
  refine lv_iconst (v := 0) C.1 C.2.1 dX3_leavePool_29 (by decide) ?_
  obtain ⟨p_ad5, e5, hf⟩ := bx hf
  refine r_iast C hw _ (gx_h pO_g8) e5 (pO G ad p_ad5 ++ (zO G ad u4 ++ [])) (fun h => (sx_h pO_g8 (pO_s8 h))) dX3_leavePool_30 (fun H locs hw => ?_)
  exact fin_v C hw (Option.some.inj hf) (fun o => (pO G ad o.1 ++ (zO G ad o.2 ++ []))) rfl dX3_leavePool_31
set_option maxHeartbeats 4000000 in
set_option maxRecDepth 100000 in
theorem c_X3_sizeOf (l : Launch) (G : GG) (ad : Nat → Nat) (sz : Nat) (p_ad : Pic) (x1 : Int32) (out : Int32) (hf : f_X3_sizeOf p_ad x1 = some out) : Met l yX3_sizeOf (.code yX3_sizeOf cX3_sizeOf 2 (some .int) :: BT) ({ frames := 1, cells := 0, slots := 0, locals := 20 }) (va_Pc [.ref (ad 99), .int x1] (PreW G sz (pO G ad p_ad ++ []))) (Ans G out (va_A (pO G ad p_ad ++ []) sz) (pO G ad p_ad ++ [])) 0 0 (va_A (pO G ad p_ad ++ []) sz) := by
  refine Met.into (by decide) (Nat.le_of_ble_eq_true rfl) ?_
  intro p e s m below meth c C hsz ls hl hw
  have hl : lv_has ls 2 [(0, .ref (ad 99)), (1, .int x1)] := hl
  clear hsz
  generalize va_A (pO G ad p_ad ++ []) sz = A at hw ⊢
  unfold f_X3_sizeOf at hf
  refine r_iload0 C hl 1 rfl dX3_sizeOf_0 ?_
  obtain ⟨u1, e1, hf⟩ := bx hf
  refine r_callSi (ws' := (pO G ad p_ad ++ [])) (As := [.int x1]) (rest := []) C hw hl.1 kX3_isPage ml_X3_81 (c_X3_isPage l G _ x1 u1 e1) CutX.none ⟨rfl, rfl⟩ ⟨Nat.le_of_ble_eq_true rfl, Nat.le_of_ble_eq_true rfl⟩ rfl ⟨Nat.zero_le _, Nat.zero_le _⟩ rfl (Nat.le_of_ble_eq_true rfl) dX3_sizeOf_1 (fun H locs hw => ?_)
  refine lv_if_eq (tgt := 16) C.1 C.2.1 dX3_sizeOf_4 (by decide) (fun hc => ?_) (fun hc => ?_)
  · replace hf := ifp hf hc
    refine lv_iconst (v := 0) C.1 C.2.1 dX3_sizeOf_16 (by decide) ?_
    exact fin_i C hw (Option.some.inj hf) (fun o => o) (fun o => (pO G ad p_ad ++ [])) rfl rfl dX3_sizeOf_17
  · replace hf := ifn hf hc
    refine r_aload0 C hl 0 rfl dX3_sizeOf_7 ?_
    refine r_get C hw _ (gx_h pO_o) 5 fl_X3_32 rfl dX3_sizeOf_8 ?_
    refine r_iload0 C hl 1 rfl dX3_sizeOf_11 ?_
    obtain ⟨v2_, e2, hf⟩ := bx hf
    refine r_iald C hw _ (gx_h pO_g5) e2 dX3_sizeOf_12 ?_
    refine lv_goto (tgt := 17) C.1 C.2.1 dX3_sizeOf_13 (by decide) ?_
    exact fin_i C hw (Option.some.inj hf) (fun o => o) (fun o => (pO G ad p_ad ++ [])) rfl rfl dX3_sizeOf_17
set_option maxHeartbeats 4000000 in
set_option maxRecDepth 100000 in
theorem c_X3_coldestOf (l : Launch) (G : GG) (ad : Nat → Nat) (sz : Nat) (p_ad : Pic) (x1 : Int32) (out : Int32) (hf : f_X3_coldestOf p_ad x1 = some out) : Met l yX3_coldestOf (.code yX3_coldestOf cX3_coldestOf 3 (some .int) :: BT) ({ frames := 2, cells := 0, slots := 0, locals := 41 }) (va_Pc [.ref (ad 99), .int x1] (PreW G sz (pO G ad p_ad ++ []))) (Ans G out (va_A (pO G ad p_ad ++ []) sz) (pO G ad p_ad ++ [])) 0 0 (va_A (pO G ad p_ad ++ []) sz) := by
  refine Met.into (by decide) (Nat.le_of_ble_eq_true rfl) ?_
  intro p e s m below meth c C hsz ls hl hw
  have hl : lv_has ls 3 [(0, .ref (ad 99)), (1, .int x1)] := hl
  clear hsz
  generalize va_A (pO G ad p_ad ++ []) sz = A at hw ⊢
  have hB_2 : ∀ (k2 : Int32 → Option (Int32)) (hk2 : ∀ (v2 : Int32), k2 v2 = some out → ∀ (H : Heap) (locs : List Loc), Wd G A s H locs (pO G ad p_ad ++ []) → ∀ ls : Array Slot, lv_has ls 3 [(0, .ref (ad 99)), (1, .int x1), (2, .int v2)] → W p l e ({ frames := 2, cells := 0, slots := 0, locals := 41 }) s m [.ref (ad 99), .int x1].toArray below meth c H locs 0 0 (MQ below (Ans G out A (pO G ad p_ad ++ [])) [.ref (ad 99), .int x1].toArray s 0 0 A) (F0 m 2 ls [])), ∀ (v2 : Int32), b_X3_coldestOf_2 p_ad x1 k2 v2 = some out → ∀ (H : Heap) (locs : List Loc), Wd G A s H locs (pO G ad p_ad ++ []) → ∀ ls : Array Slot, lv_has ls 3 [(0, .ref (ad 99)), (1, .int x1), (2, .int v2)] → W p l e ({ frames := 2, cells := 0, slots := 0, locals := 41 }) s m [.ref (ad 99), .int x1].toArray below meth c H locs 0 0 (MQ below (Ans G out A (pO G ad p_ad ++ [])) [.ref (ad 99), .int x1].toArray s 0 0 A) (F0 m 2 ls []) := by
    intro k2 hk2 v2 hf H locs hw ls hl
    unfold b_X3_coldestOf_2 at hf
    refine r_iload0 C hl 2 rfl dX3_coldestOf_2 ?_
    refine r_aload0 C hl 0 rfl dX3_coldestOf_3 ?_
    refine r_get C hw _ (gx_h pO_o) 11 fl_X3_65 rfl dX3_coldestOf_4 ?_
    refine lv_icmp_ge (tgt := 50) C.1 C.2.1 dX3_coldestOf_7 (by decide) (fun hc => ?_) (fun hc => ?_)
    · replace hf := ifp hf hc
      refine lv_bipush (v := (-2)) C.1 C.2.1 dX3_coldestOf_50 (by decide) ?_
      exact fin_i C hw (Option.some.inj hf) (fun o => o) (fun o => (pO G ad p_ad ++ [])) rfl rfl dX3_coldestOf_52
    · replace hf := ifn hf hc
      refine r_iload0 C hl 2 rfl dX3_coldestOf_10 ?_
      refine lv_bipush (v := 30) C.1 C.2.1 dX3_coldestOf_11 (by decide) ?_
      refine lv_icmp_ge (tgt := 50) C.1 C.2.1 dX3_coldestOf_13 (by decide) (fun hc => ?_) (fun hc => ?_)
      · replace hf := ifp hf hc
        refine lv_bipush (v := (-2)) C.1 C.2.1 dX3_coldestOf_50 (by decide) ?_
        exact fin_i C hw (Option.some.inj hf) (fun o => o) (fun o => (pO G ad p_ad ++ [])) rfl rfl dX3_coldestOf_52
      · replace hf := ifn hf hc
        refine r_aload0 C hl 0 rfl dX3_coldestOf_16 ?_
        refine r_aload0 C hl 0 rfl dX3_coldestOf_17 ?_
        refine r_get C hw _ (gx_h pO_o) 10 fl_X3_47 rfl dX3_coldestOf_18 ?_
        refine r_iload0 C hl 2 rfl dX3_coldestOf_21 ?_
        obtain ⟨v1_, e1, hf⟩ := bx hf
        refine r_iald C hw _ (gx_h pO_g10) e1 dX3_coldestOf_22 ?_
        obtain ⟨u2, e2, hf⟩ := bx hf
        refine r_callVi (ws' := (pO G ad p_ad ++ [])) (As := [.int v1_]) (rest := []) C hw hl.1 kX3_sizeOf ml_X3_85 (c_X3_sizeOf l G ad _ p_ad v1_ u2 e2) (CutX.take pO_f CutX.none) _ (gx_h pO_o) rfl ⟨rfl, rfl⟩ ⟨Nat.le_of_ble_eq_true rfl, Nat.le_of_ble_eq_true rfl⟩ rfl ⟨Nat.zero_le _, Nat.zero_le _⟩ rfl (Nat.le_of_ble_eq_true rfl) dX3_coldestOf_23 (fun H locs hw => ?_)
        refine r_aload0 C hl 0 rfl dX3_coldestOf_26 ?_
        refine r_get C hw _ (gx_h pO_o) 1 fl_X3_15 rfl dX3_coldestOf_27 ?_
        obtain ⟨u3, e3, hf⟩ := bx hf
        refine r_callSi (ws' := (pO G ad p_ad ++ [])) (As := [.int u2, .int (gS p_ad 1)]) (rest := []) C hw hl.1 kX0_homeOf ml_X3_89 (c_X0_homeOf l G _ u2 (gS p_ad 1) u3 e3) CutX.none ⟨rfl, rfl⟩ ⟨Nat.le_of_ble_eq_true rfl, Nat.le_of_ble_eq_true rfl⟩ rfl ⟨Nat.zero_le _, Nat.zero_le _⟩ rfl (Nat.le_of_ble_eq_true rfl) dX3_coldestOf_30 (fun H locs hw => ?_)
        refine r_iload0 C hl 1 rfl dX3_coldestOf_33 ?_
        refine lv_icmp_ne (tgt := 44) C.1 C.2.1 dX3_coldestOf_34 (by decide) (fun hc => ?_) (fun hc => ?_)
        · replace hf := ifn hf hc
          refine r_iinc C hl 2 (v2 + 1) [(2, .int (v2 + 1)), (0, .ref (ad 99)), (1, .int x1)] rfl (iinc_e (by decide)) (by decide) rfl dX3_coldestOf_44 (fun ls hl => ?_)
          refine lv_goto (tgt := 2) C.1 C.2.1 dX3_coldestOf_47 (by decide) ?_
          exact hk2 (v2 + 1) hf _ _ hw _ (lv_sub hl [1, 2, 0] rfl)
        · replace hf := ifp hf hc
          refine r_aload0 C hl 0 rfl dX3_coldestOf_37 ?_
          refine r_get C hw _ (gx_h pO_o) 10 fl_X3_47 rfl dX3_coldestOf_38 ?_
          refine r_iload0 C hl 2 rfl dX3_coldestOf_41 ?_
          obtain ⟨v4_, e4, hf⟩ := bx hf
          refine r_iald C hw _ (gx_h pO_g10) e4 dX3_coldestOf_42 ?_
          exact fin_i C hw (Option.some.inj hf) (fun o => o) (fun o => (pO G ad p_ad ++ [])) rfl rfl dX3_coldestOf_43
  have hL_2 : ∀ n : Nat, ∀ (v2 : Int32), L_X3_coldestOf_2 p_ad x1  n v2 = some out → ∀ (H : Heap) (locs : List Loc), Wd G A s H locs (pO G ad p_ad ++ []) → ∀ ls : Array Slot, lv_has ls 3 [(0, .ref (ad 99)), (1, .int x1), (2, .int v2)] → W p l e ({ frames := 2, cells := 0, slots := 0, locals := 41 }) s m [.ref (ad 99), .int x1].toArray below meth c H locs 0 0 (MQ below (Ans G out A (pO G ad p_ad ++ [])) [.ref (ad 99), .int x1].toArray s 0 0 A) (F0 m 2 ls []) := by
    intro  n
    induction n with
    | zero => intro v2 hf; cases hf
    | succ n ih => exact hB_2 _ ih
  unfold f_X3_coldestOf at hf
  refine lv_iconst (v := 0) C.1 C.2.1 dX3_coldestOf_0 (by decide) ?_
  refine r_istore0 C hl [(2, .int 0), (0, .ref (ad 99)), (1, .int x1)] (by decide) rfl dX3_coldestOf_1 (fun ls hl => ?_)
  exact hL_2  FU 0 hf _ _ hw _ (lv_sub hl [1, 2, 0] rfl)
set_option maxHeartbeats 4000000 in
set_option maxRecDepth 100000 in
theorem c_X3_dropPage (l : Launch) (G : GG) (ad : Nat → Nat) (sz : Nat) (p_ad : Pic) (z_ad : Pic) (x1 : Int32) (out : Pic × Pic) (hf : f_X3_dropPage p_ad z_ad x1 = some out) : Met l yX3_dropPage (.code yX3_dropPage cX3_dropPage 2 none :: BT) ({ frames := 2, cells := 0, slots := 0, locals := 44 }) (va_Pc [.ref (ad 99), .int x1] (PreW G sz (pO G ad p_ad ++ (zO G ad z_ad ++ [])))) (Don G (va_A (pO G ad p_ad ++ (zO G ad z_ad ++ [])) sz) (pO G ad out.1 ++ (zO G ad out.2 ++ []))) 0 0 (va_A (pO G ad p_ad ++ (zO G ad z_ad ++ [])) sz) := by
  refine Met.into (by decide) (Nat.le_of_ble_eq_true rfl) ?_
  intro p e s m below meth c C hsz ls hl hw
  have hl : lv_has ls 2 [(0, .ref (ad 99)), (1, .int x1)] := hl
  clear hsz
  generalize va_A (pO G ad p_ad ++ (zO G ad z_ad ++ [])) sz = A at hw ⊢
  have hB_23 : ∀ (p_ad : Pic) (z_ad : Pic), b_X3_dropPage_23 x1  p_ad z_ad = some out → ∀ (H : Heap) (locs : List Loc), Wd G A s H locs (pO G ad p_ad ++ (zO G ad z_ad ++ [])) → ∀ ls : Array Slot, lv_has ls 2 [(0, .ref (ad 99)), (1, .int x1)] → W p l e ({ frames := 2, cells := 0, slots := 0, locals := 44 }) s m [.ref (ad 99), .int x1].toArray below meth c H locs 0 0 (MQ below (Don G A (pO G ad out.1 ++ (zO G ad out.2 ++ []))) [.ref (ad 99), .int x1].toArray s 0 0 A) (F0 m 23 ls []) := by
    intro p_ad z_ad hf H locs hw ls hl
    unfold b_X3_dropPage_23 at hf
    refine r_aload0 C hl 0 rfl dX3_dropPage_23 ?_
    refine r_get C hw _ (gx_h pO_o) 4 fl_X3_28 rfl dX3_dropPage_24 ?_
    refine r_iload0 C hl 1 rfl dX3_dropPage_27 ?_
    refine lv_iconst (v := 0) C.1 C.2.1 dX3_dropPage_28 (by decide) ?_
    obtain ⟨p_ad3, e3, hf⟩ := bx hf
    refine r_iast C hw _ (gx_h pO_g4) e3 (pO G ad p_ad3 ++ (zO G ad z_ad ++ [])) (fun h => (sx_h pO_g4 (pO_s4 h))) dX3_dropPage_29 (fun H locs hw => ?_)
    exact fin_v C hw (Option.some.inj hf) (fun o => (pO G ad o.1 ++ (zO G ad o.2 ++ []))) rfl dX3_dropPage_30
  unfold f_X3_dropPage at hf
  refine r_iload0 C hl 1 rfl dX3_dropPage_0 ?_
  obtain ⟨u1, e1, hf⟩ := bx hf
  refine r_callSi (ws' := (pO G ad p_ad ++ (zO G ad z_ad ++ []))) (As := [.int x1]) (rest := []) C hw hl.1 kX3_isPage ml_X3_81 (c_X3_isPage l G _ x1 u1 e1) CutX.none ⟨rfl, rfl⟩ ⟨Nat.le_of_ble_eq_true rfl, Nat.le_of_ble_eq_true rfl⟩ rfl ⟨Nat.zero_le _, Nat.zero_le _⟩ rfl (Nat.le_of_ble_eq_true rfl) dX3_dropPage_1 (fun H locs hw => ?_)
  refine lv_if_ne (tgt := 8) C.1 C.2.1 dX3_dropPage_4 (by decide) (fun hc => ?_) (fun hc => ?_)
  · replace hf := ifn hf hc
    refine r_aload0 C hl 0 rfl dX3_dropPage_8 ?_
    refine r_get C hw _ (gx_h pO_o) 4 fl_X3_28 rfl dX3_dropPage_9 ?_
    refine r_iload0 C hl 1 rfl dX3_dropPage_12 ?_
    obtain ⟨v2_, e2, hf⟩ := bx hf
    refine r_iald C hw _ (gx_h pO_g4) e2 dX3_dropPage_13 ?_
    refine lv_iconst (v := 2) C.1 C.2.1 dX3_dropPage_14 (by decide) ?_
    refine lv_icmp_ne (tgt := 23) C.1 C.2.1 dX3_dropPage_15 (by decide) (fun hc => ?_) (fun hc => ?_)
    · replace hf := ifn hf hc
      exact hB_23  p_ad z_ad hf _ _ hw _ (lv_sub hl [0, 1] rfl)
    · replace hf := ifp hf hc
      refine r_aload0 C hl 0 rfl dX3_dropPage_18 ?_
      refine r_iload0 C hl 1 rfl dX3_dropPage_19 ?_
      obtain ⟨u4, e4, hf⟩ := bx hf
      refine r_callVv (ws' := (pO G ad u4.1 ++ (zO G ad u4.2 ++ []))) (As := [.int x1]) (rest := []) C hw hl.1 kX3_leavePool ml_X3_135 (c_X3_leavePool l G ad _ p_ad z_ad x1 u4 e4) (CutX.take pO_f (CutX.take zO_f CutX.none)) _ (gx_h pO_o) rfl ⟨rfl, rfl⟩ ⟨Nat.le_of_ble_eq_true rfl, Nat.le_of_ble_eq_true rfl⟩ rfl ⟨Nat.zero_le _, Nat.zero_le _⟩ rfl (Nat.le_of_ble_eq_true rfl) dX3_dropPage_20 (fun H locs hw => ?_)
      exact hB_23  u4.1 u4.2 hf _ _ hw _ (lv_sub hl [0, 1] rfl)
  · replace hf := ifp hf hc
    exact fin_v C hw (Option.some.inj hf) (fun o => (pO G ad o.1 ++ (zO G ad o.2 ++ []))) rfl dX3_dropPage_7
set_option maxHeartbeats 4000000 in
set_option maxRecDepth 100000 in
theorem c_X3_compactAll (l : Launch) (G : GG) (ad : Nat → Nat) (sz : Nat) (p_ad : Pic) (z_ad : Pic)  (out : Int32 × Pic × Pic) (hf : f_X3_compactAll p_ad z_ad = some out) : Met l yX3_compactAll (.code yX3_compactAll cX3_compactAll 3 (some .int) :: BT) ({ frames := 4, cells := 0, slots := 0, locals := 91 }) (va_Pc [.ref (ad 99)] (PreW G sz (pO G ad p_ad ++ (zO G ad z_ad ++ [])))) (Ans G out.1 (va_A (pO G ad p_ad ++ (zO G ad z_ad ++ [])) sz) (pO G ad out.2.1 ++ (zO G ad out.2.2 ++ []))) 0 0 (va_A (pO G ad p_ad ++ (zO G ad z_ad ++ [])) sz) := by
  refine Met.into (by decide) (Nat.le_of_ble_eq_true rfl) ?_
  intro p e s m below meth c C hsz ls hl hw
  have hl : lv_has ls 3 [(0, .ref (ad 99))] := hl
  clear hsz
  generalize va_A (pO G ad p_ad ++ (zO G ad z_ad ++ [])) sz = A at hw ⊢
  have hB_10 : ∀ (k10 : Pic → Pic → Int32 → Int32 → Option (Int32 × Pic × Pic)) (hk10 : ∀ (p_ad : Pic) (z_ad : Pic) (v1 : Int32) (v2 : Int32), k10 p_ad z_ad v1 v2 = some out → ∀ (H : Heap) (locs : List Loc), Wd G A s H locs (pO G ad p_ad ++ (zO G ad z_ad ++ [])) → ∀ ls : Array Slot, lv_has ls 3 [(0, .ref (ad 99)), (1, .int v1), (2, .int v2)] → W p l e ({ frames := 4, cells := 0, slots := 0, locals := 91 }) s m [.ref (ad 99)].toArray below meth c H locs 0 0 (MQ below (Ans G out.1 A (pO G ad out.2.1 ++ (zO G ad out.2.2 ++ []))) [.ref (ad 99)].toArray s 0 0 A) (F0 m 10 ls [])), ∀ (p_ad : Pic) (z_ad : Pic) (v1 : Int32) (v2 : Int32), b_X3_compactAll_10  k10 p_ad z_ad v1 v2 = some out → ∀ (H : Heap) (locs : List Loc), Wd G A s H locs (pO G ad p_ad ++ (zO G ad z_ad ++ [])) → ∀ ls : Array Slot, lv_has ls 3 [(0, .ref (ad 99)), (1, .int v1), (2, .int v2)] → W p l e ({ frames := 4, cells := 0, slots := 0, locals := 91 }) s m [.ref (ad 99)].toArray below meth c H locs 0 0 (MQ below (Ans G out.1 A (pO G ad out.2.1 ++ (zO G ad out.2.2 ++ []))) [.ref (ad 99)].toArray s 0 0 A) (F0 m 10 ls []) := by
    intro k10 hk10 p_ad z_ad v1 v2 hf H locs hw ls hl
    unfold b_X3_compactAll_10 at hf
    refine r_iload0 C hl 2 rfl dX3_compactAll_10 ?_
    refine lv_bipush (v := 16) C.1 C.2.1 dX3_compactAll_11 (by decide) ?_
    refine lv_icmp_gt (tgt := 27) C.1 C.2.1 dX3_compactAll_13 (by decide) (fun hc => ?_) (fun hc => ?_)
    · replace hf := ifp hf hc
      refine r_iload0 C hl 1 rfl dX3_compactAll_27 ?_
      refine r_aload0 C hl 0 rfl dX3_compactAll_28 ?_
      refine r_get C hw _ (gx_h pO_o) 3 fl_X3_24 rfl dX3_compactAll_29 ?_
      refine r_get C hw _ (gx_t (gx_h zO_o)) 0 fl_X3_102 rfl dX3_compactAll_32 ?_
      refine lv_isub C.1 C.2.1 dX3_compactAll_35 ?_
      exact fin_i C hw (Option.some.inj hf) (fun o => o.1) (fun o => (pO G ad o.2.1 ++ (zO G ad o.2.2 ++ []))) rfl rfl dX3_compactAll_36
    · replace hf := ifn hf hc
      refine r_aload0 C hl 0 rfl dX3_compactAll_16 ?_
      refine r_iload0 C hl 2 rfl dX3_compactAll_17 ?_
      obtain ⟨u1, e1, hf⟩ := bx hf
      refine r_callVv (ws' := (pO G ad u1.1 ++ (zO G ad u1.2 ++ []))) (As := [.int v2]) (rest := []) C hw hl.1 kX3_compactClass ml_X3_144 (c_X3_compactClass l G ad _ p_ad z_ad v2 u1 e1) (CutX.take pO_f (CutX.take zO_f CutX.none)) _ (gx_h pO_o) rfl ⟨rfl, rfl⟩ ⟨Nat.le_of_ble_eq_true rfl, Nat.le_of_ble_eq_true rfl⟩ rfl ⟨Nat.zero_le _, Nat.zero_le _⟩ rfl (Nat.le_of_ble_eq_true rfl) dX3_compactAll_18 (fun H locs hw => ?_)
      refine r_iinc C hl 2 (v2 + 1) [(2, .int (v2 + 1)), (0, .ref (ad 99)), (1, .int v1)] rfl (iinc_e (by decide)) (by decide) rfl dX3_compactAll_21 (fun ls hl => ?_)
      refine lv_goto (tgt := 10) C.1 C.2.1 dX3_compactAll_24 (by decide) ?_
      exact hk10 u1.1 u1.2 v1 (v2 + 1) hf _ _ hw _ (lv_sub hl [1, 2, 0] rfl)
  have hL_10 : ∀ n : Nat, ∀ (p_ad : Pic) (z_ad : Pic) (v1 : Int32) (v2 : Int32), L_X3_compactAll_10   n p_ad z_ad v1 v2 = some out → ∀ (H : Heap) (locs : List Loc), Wd G A s H locs (pO G ad p_ad ++ (zO G ad z_ad ++ [])) → ∀ ls : Array Slot, lv_has ls 3 [(0, .ref (ad 99)), (1, .int v1), (2, .int v2)] → W p l e ({ frames := 4, cells := 0, slots := 0, locals := 91 }) s m [.ref (ad 99)].toArray below meth c H locs 0 0 (MQ below (Ans G out.1 A (pO G ad out.2.1 ++ (zO G ad out.2.2 ++ []))) [.ref (ad 99)].toArray s 0 0 A) (F0 m 10 ls []) := by
    intro  n
    induction n with
    | zero => intro p_ad z_ad v1 v2 hf; cases hf
    | succ n ih => exact hB_10 _ ih
  unfold f_X3_compactAll at hf
  refine r_aload0 C hl 0 rfl dX3_compactAll_0 ?_
  refine r_get C hw _ (gx_h pO_o) 3 fl_X3_24 rfl dX3_compactAll_1 ?_
  refine r_get C hw _ (gx_t (gx_h zO_o)) 0 fl_X3_102 rfl dX3_compactAll_4 ?_
  refine r_istore0 C hl [(1, .int (gS z_ad 0)), (0, .ref (ad 99))] (by decide) rfl dX3_compactAll_7 (fun ls hl => ?_)
  refine lv_iconst (v := 1) C.1 C.2.1 dX3_compactAll_8 (by decide) ?_
  refine r_istore0 C hl [(2, .int 1), (1, .int (gS z_ad 0)), (0, .ref (ad 99))] (by decide) rfl dX3_compactAll_9 (fun ls hl => ?_)
  exact hL_10  FU p_ad z_ad (gS z_ad 0) 1 hf _ _ hw _ (lv_sub hl [2, 1, 0] rfl)
set_option maxHeartbeats 4000000 in
set_option maxRecDepth 100000 in
theorem c_X3_writeOut (l : Launch) (G : GG) (ad : Nat → Nat) (sz : Nat) (p_ad : Pic) (z_ad : Pic) (x1 : Int32) (out : Pic × Pic) (hf : f_X3_writeOut p_ad z_ad x1 = some out) : Met l yX3_writeOut (.code yX3_writeOut cX3_writeOut 2 none :: BT) ({ frames := 2, cells := 0, slots := 0, locals := 44 }) (va_Pc [.ref (ad 99), .int x1] (PreW G sz (pO G ad p_ad ++ (zO G ad z_ad ++ [])))) (Don G (va_A (pO G ad p_ad ++ (zO G ad z_ad ++ [])) sz) (pO G ad out.1 ++ (zO G ad out.2 ++ []))) 0 0 (va_A (pO G ad p_ad ++ (zO G ad z_ad ++ [])) sz) := by
  refine Met.into (by decide) (Nat.le_of_ble_eq_true rfl) ?_
  intro p e s m below meth c C hsz ls hl hw
  have hl : lv_has ls 2 [(0, .ref (ad 99)), (1, .int x1)] := hl
  clear hsz
  generalize va_A (pO G ad p_ad ++ (zO G ad z_ad ++ [])) sz = A at hw ⊢
  have hB_15 : ∀ (p_ad : Pic) (z_ad : Pic), b_X3_writeOut_15 x1  p_ad z_ad = some out → ∀ (H : Heap) (locs : List Loc), Wd G A s H locs (pO G ad p_ad ++ (zO G ad z_ad ++ [])) → ∀ ls : Array Slot, lv_has ls 2 [(0, .ref (ad 99)), (1, .int x1)] → W p l e ({ frames := 2, cells := 0, slots := 0, locals := 44 }) s m [.ref (ad 99), .int x1].toArray below meth c H locs 0 0 (MQ below (Don G A (pO G ad out.1 ++ (zO G ad out.2 ++ []))) [.ref (ad 99), .int x1].toArray s 0 0 A) (F0 m 15 ls []) := by
    intro p_ad z_ad hf H locs hw ls hl
    unfold b_X3_writeOut_15 at hf
    refine r_aload0 C hl 0 rfl dX3_writeOut_15 ?_
    refine r_get C hw _ (gx_h pO_o) 4 fl_X3_28 rfl dX3_writeOut_16 ?_
    refine r_iload0 C hl 1 rfl dX3_writeOut_19 ?_
    refine lv_iconst (v := 3) C.1 C.2.1 dX3_writeOut_20 (by decide) ?_
    obtain ⟨p_ad2, e2, hf⟩ := bx hf
    refine r_iast C hw _ (gx_h pO_g4) e2 (pO G ad p_ad2 ++ (zO G ad z_ad ++ [])) (fun h => (sx_h pO_g4 (pO_s4 h))) dX3_writeOut_21 (fun H locs hw => ?_)
    refine r_aload0 C hl 0 rfl dX3_writeOut_22 ?_
    refine r_get C hw _ (gx_h pO_o) 12 fl_X3_50 rfl dX3_writeOut_23 ?_
    refine lv_iconst (v := 0) C.1 C.2.1 dX3_writeOut_26 (by decide) ?_
    refine lv_dup2_11 C.1 C.2.1 dX3_writeOut_27 rfl rfl ?_
    obtain ⟨v3_, e3, hf⟩ := bx hf
    refine r_iald C hw _ (gx_h pO_g12) e3 dX3_writeOut_28 ?_
    refine lv_iconst (v := 1) C.1 C.2.1 dX3_writeOut_29 (by decide) ?_
    refine lv_iadd C.1 C.2.1 dX3_writeOut_30 ?_
    obtain ⟨p_ad4, e4, hf⟩ := bx hf
    refine r_iast C hw _ (gx_h pO_g12) e4 (pO G ad p_ad4 ++ (zO G ad z_ad ++ [])) (fun h => (sx_h pO_g12 (pO_s12 h))) dX3_writeOut_31 (fun H locs hw => ?_)
    exact fin_v C hw (Option.some.inj hf) (fun o => (pO G ad o.1 ++ (zO G ad o.2 ++ []))) rfl dX3_writeOut_32
  unfold f_X3_writeOut at hf
  refine r_aload0 C hl 0 rfl dX3_writeOut_0 ?_
  refine r_get C hw _ (gx_h pO_o) 4 fl_X3_28 rfl dX3_writeOut_1 ?_
  refine r_iload0 C hl 1 rfl dX3_writeOut_4 ?_
  obtain ⟨v1_, e1, hf⟩ := bx hf
  refine r_iald C hw _ (gx_h pO_g4) e1 dX3_writeOut_5 ?_
  refine lv_iconst (v := 2) C.1 C.2.1 dX3_writeOut_6 (by decide) ?_
  refine lv_icmp_ne (tgt := 15) C.1 C.2.1 dX3_writeOut_7 (by decide) (fun hc => ?_) (fun hc => ?_)
  · replace hf := ifn hf hc
    exact hB_15  p_ad z_ad hf _ _ hw _ (lv_sub hl [0, 1] rfl)
  · replace hf := ifp hf hc
    refine r_aload0 C hl 0 rfl dX3_writeOut_10 ?_
    refine r_iload0 C hl 1 rfl dX3_writeOut_11 ?_
    obtain ⟨u5, e5, hf⟩ := bx hf
    refine r_callVv (ws' := (pO G ad u5.1 ++ (zO G ad u5.2 ++ []))) (As := [.int x1]) (rest := []) C hw hl.1 kX3_leavePool ml_X3_135 (c_X3_leavePool l G ad _ p_ad z_ad x1 u5 e5) (CutX.take pO_f (CutX.take zO_f CutX.none)) _ (gx_h pO_o) rfl ⟨rfl, rfl⟩ ⟨Nat.le_of_ble_eq_true rfl, Nat.le_of_ble_eq_true rfl⟩ rfl ⟨Nat.zero_le _, Nat.zero_le _⟩ rfl (Nat.le_of_ble_eq_true rfl) dX3_writeOut_12 (fun H locs hw => ?_)
    exact hB_15  u5.1 u5.2 hf _ _ hw _ (lv_sub hl [0, 1] rfl)
set_option maxHeartbeats 4000000 in
set_option maxRecDepth 100000 in
theorem c_X3_writeColdest (l : Launch) (G : GG) (ad : Nat → Nat) (sz : Nat) (p_ad : Pic) (z_ad : Pic) (x1 : Int32) (out : Int32 × Pic × Pic) (hf : f_X3_writeColdest p_ad z_ad x1 = some out) : Met l yX3_writeColdest (.code yX3_writeColdest cX3_writeColdest 4 (some .int) :: BT) ({ frames := 3, cells := 0, slots := 0, locals := 65 }) (va_Pc [.ref (ad 99), .int x1] (PreW G sz (pO G ad p_ad ++ (zO G ad z_ad ++ [])))) (Ans G out.1 (va_A (pO G ad p_ad ++ (zO G ad z_ad ++ [])) sz) (pO G ad out.2.1 ++ (zO G ad out.2.2 ++ []))) 0 0 (va_A (pO G ad p_ad ++ (zO G ad z_ad ++ [])) sz) := by
  refine Met.into (by decide) (Nat.le_of_ble_eq_true rfl) ?_
  intro p e s m below meth c C hsz ls hl hw
  have hl : lv_has ls 4 [(0, .ref (ad 99)), (1, .int x1)] := hl
  clear hsz
  generalize va_A (pO G ad p_ad ++ (zO G ad z_ad ++ [])) sz = A at hw ⊢
  have hB_2 : ∀ (k2 : Pic → Pic → Int32 → Option (Int32 × Pic × Pic)) (hk2 : ∀ (p_ad : Pic) (z_ad : Pic) (v2 : Int32), k2 p_ad z_ad v2 = some out → ∀ (H : Heap) (locs : List Loc), Wd G A s H locs (pO G ad p_ad ++ (zO G ad z_ad ++ [])) → ∀ ls : Array Slot, lv_has ls 4 [(0, .ref (ad 99)), (1, .int x1), (2, .int v2)] → W p l e ({ frames := 3, cells := 0, slots := 0, locals := 65 }) s m [.ref (ad 99), .int x1].toArray below meth c H locs 0 0 (MQ below (Ans G out.1 A (pO G ad out.2.1 ++ (zO G ad out.2.2 ++ []))) [.ref (ad 99), .int x1].toArray s 0 0 A) (F0 m 2 ls [])), ∀ (p_ad : Pic) (z_ad : Pic) (v2 : Int32), b_X3_writeColdest_2 x1 k2 p_ad z_ad v2 = some out → ∀ (H : Heap) (locs : List Loc), Wd G A s H locs (pO G ad p_ad ++ (zO G ad z_ad ++ [])) → ∀ ls : Array Slot, lv_has ls 4 [(0, .ref (ad 99)), (1, .int x1), (2, .int v2)] → W p l e ({ frames := 3, cells := 0, slots := 0, locals := 65 }) s m [.ref (ad 99), .int x1].toArray below meth c H locs 0 0 (MQ below (Ans G out.1 A (pO G ad out.2.1 ++ (zO G ad out.2.2 ++ []))) [.ref (ad 99), .int x1].toArray s 0 0 A) (F0 m 2 ls []) := by
    intro k2 hk2 p_ad z_ad v2 hf H locs hw ls hl
    unfold b_X3_writeColdest_2 at hf
    refine r_iload0 C hl 2 rfl dX3_writeColdest_2 ?_
    refine r_iload0 C hl 1 rfl dX3_writeColdest_3 ?_
    refine lv_icmp_ge (tgt := 29) C.1 C.2.1 dX3_writeColdest_4 (by decide) (fun hc => ?_) (fun hc => ?_)
    · replace hf := ifp hf hc
      refine r_iload0 C hl 1 rfl dX3_writeColdest_29 ?_
      exact fin_i C hw (Option.some.inj hf) (fun o => o.1) (fun o => (pO G ad o.2.1 ++ (zO G ad o.2.2 ++ []))) rfl rfl dX3_writeColdest_30
    · replace hf := ifn hf hc
      refine r_aload0 C hl 0 rfl dX3_writeColdest_7 ?_
      obtain ⟨u1, e1, hf⟩ := bx hf
      refine r_callVi (ws' := (pO G ad p_ad ++ (zO G ad z_ad ++ []))) (As := []) (rest := []) C hw hl.1 kX3_coldestLoose ml_X3_138 (c_X3_coldestLoose l G ad _ p_ad u1 e1) (CutX.take pO_f CutX.none) _ (gx_h pO_o) rfl ⟨rfl, rfl⟩ ⟨Nat.le_of_ble_eq_true rfl, Nat.le_of_ble_eq_true rfl⟩ rfl ⟨Nat.zero_le _, Nat.zero_le _⟩ rfl (Nat.le_of_ble_eq_true rfl) dX3_writeColdest_8 (fun H locs hw => ?_)
      refine r_istore0 C hl [(3, .int u1), (0, .ref (ad 99)), (1, .int x1), (2, .int v2)] (by decide) rfl dX3_writeColdest_11 (fun ls hl => ?_)
      refine r_iload0 C hl 0 rfl dX3_writeColdest_12 ?_
      refine lv_if_ge (tgt := 18) C.1 C.2.1 dX3_writeColdest_13 (by decide) (fun hc => ?_) (fun hc => ?_)
      · replace hf := ifp hf hc
        refine r_aload0 C hl 1 rfl dX3_writeColdest_18 ?_
        refine r_iload0 C hl 0 rfl dX3_writeColdest_19 ?_
        obtain ⟨u2, e2, hf⟩ := bx hf
        refine r_callVv (ws' := (pO G ad u2.1 ++ (zO G ad u2.2 ++ []))) (As := [.int u1]) (rest := []) C hw hl.1 kX3_writeOut ml_X3_123 (c_X3_writeOut l G ad _ p_ad z_ad u1 u2 e2) (CutX.take pO_f (CutX.take zO_f CutX.none)) _ (gx_h pO_o) rfl ⟨rfl, rfl⟩ ⟨Nat.le_of_ble_eq_true rfl, Nat.le_of_ble_eq_true rfl⟩ rfl ⟨Nat.zero_le _, Nat.zero_le _⟩ rfl (Nat.le_of_ble_eq_true rfl) dX3_writeColdest_20 (fun H locs hw => ?_)
        refine r_iinc C hl 3 (v2 + 1) [(2, .int (v2 + 1)), (3, .int u1), (0, .ref (ad 99)), (1, .int x1)] rfl (iinc_e (by decide)) (by decide) rfl dX3_writeColdest_23 (fun ls hl => ?_)
        refine lv_goto (tgt := 2) C.1 C.2.1 dX3_writeColdest_26 (by decide) ?_
        exact hk2 u2.1 u2.2 (v2 + 1) hf _ _ hw _ (lv_sub hl [2, 3, 0] rfl)
      · replace hf := ifn hf hc
        refine r_iload0 C hl 3 rfl dX3_writeColdest_16 ?_
        exact fin_i C hw (Option.some.inj hf) (fun o => o.1) (fun o => (pO G ad o.2.1 ++ (zO G ad o.2.2 ++ []))) rfl rfl dX3_writeColdest_17
  have hL_2 : ∀ n : Nat, ∀ (p_ad : Pic) (z_ad : Pic) (v2 : Int32), L_X3_writeColdest_2 x1  n p_ad z_ad v2 = some out → ∀ (H : Heap) (locs : List Loc), Wd G A s H locs (pO G ad p_ad ++ (zO G ad z_ad ++ [])) → ∀ ls : Array Slot, lv_has ls 4 [(0, .ref (ad 99)), (1, .int x1), (2, .int v2)] → W p l e ({ frames := 3, cells := 0, slots := 0, locals := 65 }) s m [.ref (ad 99), .int x1].toArray below meth c H locs 0 0 (MQ below (Ans G out.1 A (pO G ad out.2.1 ++ (zO G ad out.2.2 ++ []))) [.ref (ad 99), .int x1].toArray s 0 0 A) (F0 m 2 ls []) := by
    intro  n
    induction n with
    | zero => intro p_ad z_ad v2 hf; cases hf
    | succ n ih => exact hB_2 _ ih
  unfold f_X3_writeColdest at hf
  refine lv_iconst (v := 0) C.1 C.2.1 dX3_writeColdest_0 (by decide) ?_
  refine r_istore0 C hl [(2, .int 0), (0, .ref (ad 99)), (1, .int x1)] (by decide) rfl dX3_writeColdest_1 (fun ls hl => ?_)
  exact hL_2  FU p_ad z_ad 0 hf _ _ hw _ (lv_sub hl [1, 2, 0] rfl)
set_option maxHeartbeats 4000000 in
set_option maxRecDepth 100000 in
theorem c_X3_changeLimit (l : Launch) (G : GG) (ad : Nat → Nat) (sz : Nat) (p_ad : Pic) (z_ad : Pic) (x1 : Int32) (out : Int32 × Pic × Pic) (hf : f_X3_changeLimit p_ad z_ad x1 = some out) : Met l yX3_changeLimit (.code yX3_changeLimit cX3_changeLimit 4 (some .int) :: BT) ({ frames := 3, cells := 0, slots := 0, locals := 65 }) (va_Pc [.ref (ad 99), .int x1] (PreW G sz (pO G ad p_ad ++ (zO G ad z_ad ++ [])))) (Ans G out.1 (va_A (pO G ad p_ad ++ (zO G ad z_ad ++ [])) sz) (pO G ad out.2.1 ++ (zO G ad out.2.2 ++ []))) 0 0 (va_A (pO G ad p_ad ++ (zO G ad z_ad ++ [])) sz) := by
  refine Met.into (by decide) (Nat.le_of_ble_eq_true rfl) ?_
  intro p e s m below meth c C hsz ls hl hw
  have hl : lv_has ls 4 [(0, .ref (ad 99)), (1, .int x1)] := hl
  clear hsz
  generalize va_A (pO G ad p_ad ++ (zO G ad z_ad ++ [])) sz = A at hw ⊢
  have hB_12 : ∀ (k12 : Pic → Pic → Int32 → Option (Int32 × Pic × Pic)) (hk12 : ∀ (p_ad : Pic) (z_ad : Pic) (v2 : Int32), k12 p_ad z_ad v2 = some out → ∀ (H : Heap) (locs : List Loc), Wd G A s H locs (pO G ad p_ad ++ (zO G ad z_ad ++ [])) → ∀ ls : Array Slot, lv_has ls 4 [(0, .ref (ad 99)), (2, .int v2)] → W p l e ({ frames := 3, cells := 0, slots := 0, locals := 65 }) s m [.ref (ad 99), .int x1].toArray below meth c H locs 0 0 (MQ below (Ans G out.1 A (pO G ad out.2.1 ++ (zO G ad out.2.2 ++ []))) [.ref (ad 99), .int x1].toArray s 0 0 A) (F0 m 12 ls [])), ∀ (p_ad : Pic) (z_ad : Pic) (v2 : Int32), b_X3_changeLimit_12 x1 k12 p_ad z_ad v2 = some out → ∀ (H : Heap) (locs : List Loc), Wd G A s H locs (pO G ad p_ad ++ (zO G ad z_ad ++ [])) → ∀ ls : Array Slot, lv_has ls 4 [(0, .ref (ad 99)), (2, .int v2)] → W p l e ({ frames := 3, cells := 0, slots := 0, locals := 65 }) s m [.ref (ad 99), .int x1].toArray below meth c H locs 0 0 (MQ below (Ans G out.1 A (pO G ad out.2.1 ++ (zO G ad out.2.2 ++ []))) [.ref (ad 99), .int x1].toArray s 0 0 A) (F0 m 12 ls []) := by
    intro k12 hk12 p_ad z_ad v2 hf H locs hw ls hl
    unfold b_X3_changeLimit_12 at hf
    refine r_iload0 C hl 1 rfl dX3_changeLimit_12 ?_
    refine lv_bipush (v := 30) C.1 C.2.1 dX3_changeLimit_13 (by decide) ?_
    refine lv_icmp_ge (tgt := 60) C.1 C.2.1 dX3_changeLimit_15 (by decide) (fun hc => ?_) (fun hc => ?_)
    · replace hf := ifp hf hc
      refine r_aload0 C hl 0 rfl dX3_changeLimit_60 ?_
      refine r_get C hw _ (gx_h pO_o) 14 fl_X3_68 rfl dX3_changeLimit_61 ?_
      exact fin_i C hw (Option.some.inj hf) (fun o => o.1) (fun o => (pO G ad o.2.1 ++ (zO G ad o.2.2 ++ []))) rfl rfl dX3_changeLimit_64
    · replace hf := ifn hf hc
      refine r_aload0 C hl 0 rfl dX3_changeLimit_18 ?_
      refine r_get C hw _ (gx_h pO_o) 3 fl_X3_24 rfl dX3_changeLimit_19 ?_
      refine r_get C hw _ (gx_t (gx_h zO_o)) 0 fl_X3_102 rfl dX3_changeLimit_22 ?_
      refine r_aload0 C hl 0 rfl dX3_changeLimit_25 ?_
      refine r_get C hw _ (gx_h pO_o) 0 fl_X3_9 rfl dX3_changeLimit_26 ?_
      refine lv_icmp_le (tgt := 60) C.1 C.2.1 dX3_changeLimit_29 (by decide) (fun hc => ?_) (fun hc => ?_)
      · replace hf := ifp hf hc
        refine r_aload0 C hl 0 rfl dX3_changeLimit_60 ?_
        refine r_get C hw _ (gx_h pO_o) 14 fl_X3_68 rfl dX3_changeLimit_61 ?_
        exact fin_i C hw (Option.some.inj hf) (fun o => o.1) (fun o => (pO G ad o.2.1 ++ (zO G ad o.2.2 ++ []))) rfl rfl dX3_changeLimit_64
      · replace hf := ifn hf hc
        refine r_aload0 C hl 0 rfl dX3_changeLimit_32 ?_
        obtain ⟨u3, e3, hf⟩ := bx hf
        refine r_callVi (ws' := (pO G ad p_ad ++ (zO G ad z_ad ++ []))) (As := []) (rest := []) C hw hl.1 kX3_coldestLoose ml_X3_138 (c_X3_coldestLoose l G ad _ p_ad u3 e3) (CutX.take pO_f CutX.none) _ (gx_h pO_o) rfl ⟨rfl, rfl⟩ ⟨Nat.le_of_ble_eq_true rfl, Nat.le_of_ble_eq_true rfl⟩ rfl ⟨Nat.zero_le _, Nat.zero_le _⟩ rfl (Nat.le_of_ble_eq_true rfl) dX3_changeLimit_33 (fun H locs hw => ?_)
        refine r_istore0 C hl [(3, .int u3), (0, .ref (ad 99)), (2, .int v2)] (by decide) rfl dX3_changeLimit_36 (fun ls hl => ?_)
        refine r_iload0 C hl 0 rfl dX3_changeLimit_37 ?_
        refine lv_if_ge (tgt := 44) C.1 C.2.1 dX3_changeLimit_38 (by decide) (fun hc => ?_) (fun hc => ?_)
        · replace hf := ifp hf hc
          refine r_aload0 C hl 1 rfl dX3_changeLimit_44 ?_
          refine r_iload0 C hl 0 rfl dX3_changeLimit_45 ?_
          obtain ⟨u4, e4, hf⟩ := bx hf
          refine r_callVv (ws' := (pO G ad u4.1 ++ (zO G ad u4.2 ++ []))) (As := [.int u3]) (rest := []) C hw hl.1 kX3_writeOut ml_X3_123 (c_X3_writeOut l G ad _ p_ad z_ad u3 u4 e4) (CutX.take pO_f (CutX.take zO_f CutX.none)) _ (gx_h pO_o) rfl ⟨rfl, rfl⟩ ⟨Nat.le_of_ble_eq_true rfl, Nat.le_of_ble_eq_true rfl⟩ rfl ⟨Nat.zero_le _, Nat.zero_le _⟩ rfl (Nat.le_of_ble_eq_true rfl) dX3_changeLimit_46 (fun H locs hw => ?_)
          refine r_aload0 C hl 1 rfl dX3_changeLimit_49 ?_
          refine r_iload0 C hl 0 rfl dX3_changeLimit_50 ?_
          obtain ⟨u5, e5, hf⟩ := bx hf
          refine r_callVv (ws' := (pO G ad u5 ++ (zO G ad u4.2 ++ []))) (As := [.int u3]) (rest := []) C hw hl.1 kX3_notePushed ml_X3_141 (c_X3_notePushed l G ad _ u4.1 u3 u5 e5) (CutX.take pO_f CutX.none) _ (gx_h pO_o) rfl ⟨rfl, rfl⟩ ⟨Nat.le_of_ble_eq_true rfl, Nat.le_of_ble_eq_true rfl⟩ rfl ⟨Nat.zero_le _, Nat.zero_le _⟩ rfl (Nat.le_of_ble_eq_true rfl) dX3_changeLimit_51 (fun H locs hw => ?_)
          refine r_iinc C hl 2 (v2 + 1) [(2, .int (v2 + 1)), (3, .int u3), (0, .ref (ad 99))] rfl (iinc_e (by decide)) (by decide) rfl dX3_changeLimit_54 (fun ls hl => ?_)
          refine lv_goto (tgt := 12) C.1 C.2.1 dX3_changeLimit_57 (by decide) ?_
          exact hk12 u5 u4.2 (v2 + 1) hf _ _ hw _ (lv_sub hl [2, 0] rfl)
        · replace hf := ifn hf hc
          refine lv_goto (tgt := 60) C.1 C.2.1 dX3_changeLimit_41 (by decide) ?_
          refine r_aload0 C hl 1 rfl dX3_changeLimit_60 ?_
          refine r_get C hw _ (gx_h pO_o) 14 fl_X3_68 rfl dX3_changeLimit_61 ?_
          exact fin_i C hw (Option.some.inj hf) (fun o => o.1) (fun o => (pO G ad o.2.1 ++ (zO G ad o.2.2 ++ []))) rfl rfl dX3_changeLimit_64
  have hL_12 : ∀ n : Nat, ∀ (p_ad : Pic) (z_ad : Pic) (v2 : Int32), L_X3_changeLimit_12 x1  n p_ad z_ad v2 = some out → ∀ (H : Heap) (locs : List Loc), Wd G A s H locs (pO G ad p_ad ++ (zO G ad z_ad ++ [])) → ∀ ls : Array Slot, lv_has ls 4 [(0, .ref (ad 99)), (2, .int v2)] → W p l e ({ frames := 3, cells := 0, slots := 0, locals := 65 }) s m [.ref (ad 99), .int x1].toArray below meth c H locs 0 0 (MQ below (Ans G out.1 A (pO G ad out.2.1 ++ (zO G ad out.2.2 ++ []))) [.ref (ad 99), .int x1].toArray s 0 0 A) (F0 m 12 ls []) := by
    intro  n
    induction n with
    | zero => intro p_ad z_ad v2 hf; cases hf
    | succ n ih => exact hB_12 _ ih
  unfold f_X3_changeLimit at hf
  refine r_aload0 C hl 0 rfl dX3_changeLimit_0 ?_
  refine r_iload0 C hl 1 rfl dX3_changeLimit_1 ?_
  obtain ⟨p_ad1, e1, hf⟩ := bx hf
  refine r_put C hw _ (gx_h pO_o) 0 fp_X3_9 rfl rfl (Nat.le_of_ble_eq_true rfl) (pO G ad p_ad1 ++ (zO G ad z_ad ++ [])) (sx_h pO_o (pO_p0 e1)) dX3_changeLimit_2 (fun H locs hw => ?_)
  refine r_aload0 C hl 0 rfl dX3_changeLimit_5 ?_
  refine lv_iconst (v := 0) C.1 C.2.1 dX3_changeLimit_6 (by decide) ?_
  obtain ⟨p_ad2, e2, hf⟩ := bx hf
  refine r_put C hw _ (gx_h pO_o) 14 fp_X3_68 rfl rfl (Nat.le_of_ble_eq_true rfl) (pO G ad p_ad2 ++ (zO G ad z_ad ++ [])) (sx_h pO_o (pO_p14 e2)) dX3_changeLimit_7 (fun H locs hw => ?_)
  refine lv_iconst (v := 0) C.1 C.2.1 dX3_changeLimit_10 (by decide) ?_
  refine r_istore0 C hl [(2, .int 0), (0, .ref (ad 99)), (1, .int x1)] (by decide) rfl dX3_changeLimit_11 (fun ls hl => ?_)
  exact hL_12  FU p_ad2 z_ad 0 hf _ _ hw _ (lv_sub hl [1, 0] rfl)
set_option maxHeartbeats 4000000 in
set_option maxRecDepth 100000 in
theorem c_X3_settle (l : Launch) (G : GG) (ad : Nat → Nat) (sz : Nat) (p_ad : Pic) (z_ad : Pic) (x1 : Int32) (out : Pic × Pic) (hf : f_X3_settle p_ad z_ad x1 = some out) : Met l yX3_settle (.code yX3_settle cX3_settle 6 none :: BT) ({ frames := 3, cells := 0, slots := 0, locals := 68 }) (va_Pc [.ref (ad 99), .int x1] (PreW G sz (pO G ad p_ad ++ (zO G ad z_ad ++ [])))) (Don G (va_A (pO G ad p_ad ++ (zO G ad z_ad ++ [])) sz) (pO G ad out.1 ++ (zO G ad out.2 ++ []))) 0 0 (va_A (pO G ad p_ad ++ (zO G ad z_ad ++ [])) sz) := by
  refine Met.into (by decide) (Nat.le_of_ble_eq_true rfl) ?_
  intro p e s m below meth c C hsz ls hl hw
  have hl : lv_has ls 6 [(0, .ref (ad 99)), (1, .int x1)] := hl
  clear hsz
  generalize va_A (pO G ad p_ad ++ (zO G ad z_ad ++ [])) sz = A at hw ⊢
  have hB_104 : ∀ (p_ad : Pic) (z_ad : Pic), b_X3_settle_104 x1  p_ad z_ad = some out → ∀ (H : Heap) (locs : List Loc), Wd G A s H locs (pO G ad p_ad ++ (zO G ad z_ad ++ [])) → ∀ ls : Array Slot, lv_has ls 6 [(0, .ref (ad 99)), (1, .int x1)] → W p l e ({ frames := 3, cells := 0, slots := 0, locals := 68 }) s m [.ref (ad 99), .int x1].toArray below meth c H locs 0 0 (MQ below (Don G A (pO G ad out.1 ++ (zO G ad out.2 ++ []))) [.ref (ad 99), .int x1].toArray s 0 0 A) (F0 m 104 ls []) := by
    intro p_ad z_ad hf H locs hw ls hl
    unfold b_X3_settle_104 at hf
    refine r_aload0 C hl 0 rfl dX3_settle_104 ?_
    refine r_iload0 C hl 1 rfl dX3_settle_105 ?_
    obtain ⟨u3, e3, hf⟩ := bx hf
    refine r_callVv (ws' := (pO G ad u3.1 ++ (zO G ad u3.2 ++ []))) (As := [.int x1]) (rest := []) C hw hl.1 kX3_writeOut ml_X3_123 (c_X3_writeOut l G ad _ p_ad z_ad x1 u3 e3) (CutX.take pO_f (CutX.take zO_f CutX.none)) _ (gx_h pO_o) rfl ⟨rfl, rfl⟩ ⟨Nat.le_of_ble_eq_true rfl, Nat.le_of_ble_eq_true rfl⟩ rfl ⟨Nat.zero_le _, Nat.zero_le _⟩ rfl (Nat.le_of_ble_eq_true rfl) dX3_settle_106 (fun H locs hw => ?_)
    refine r_aload0 C hl 0 rfl dX3_settle_109 ?_
    refine r_iload0 C hl 1 rfl dX3_settle_110 ?_
    obtain ⟨u4, e4, hf⟩ := bx hf
    refine r_callVv (ws' := (pO G ad u4 ++ (zO G ad u3.2 ++ []))) (As := [.int x1]) (rest := []) C hw hl.1 kX3_notePushed ml_X3_141 (c_X3_notePushed l G ad _ u3.1 x1 u4 e4) (CutX.take pO_f CutX.none) _ (gx_h pO_o) rfl ⟨rfl, rfl⟩ ⟨Nat.le_of_ble_eq_true rfl, Nat.le_of_ble_eq_true rfl⟩ rfl ⟨Nat.zero_le _, Nat.zero_le _⟩ rfl (Nat.le_of_ble_eq_true rfl) dX3_settle_111 (fun H locs hw => ?_)
    exact fin_v C hw (Option.some.inj hf) (fun o => (pO G ad o.1 ++ (zO G ad o.2 ++ []))) rfl dX3_settle_114
  have hB_16 : ∀ (k16 : Pic → Pic → Int32 → Int32 → Option (Pic × Pic)) (hk16 : ∀ (p_ad : Pic) (z_ad : Pic) (v2 : Int32) (v3 : Int32), k16 p_ad z_ad v2 v3 = some out → ∀ (H : Heap) (locs : List Loc), Wd G A s H locs (pO G ad p_ad ++ (zO G ad z_ad ++ [])) → ∀ ls : Array Slot, lv_has ls 6 [(0, .ref (ad 99)), (1, .int x1), (2, .int v2), (3, .int v3)] → W p l e ({ frames := 3, cells := 0, slots := 0, locals := 68 }) s m [.ref (ad 99), .int x1].toArray below meth c H locs 0 0 (MQ below (Don G A (pO G ad out.1 ++ (zO G ad out.2 ++ []))) [.ref (ad 99), .int x1].toArray s 0 0 A) (F0 m 16 ls [])), ∀ (p_ad : Pic) (z_ad : Pic) (v2 : Int32) (v3 : Int32), b_X3_settle_16 x1 k16 p_ad z_ad v2 v3 = some out → ∀ (H : Heap) (locs : List Loc), Wd G A s H locs (pO G ad p_ad ++ (zO G ad z_ad ++ [])) → ∀ ls : Array Slot, lv_has ls 6 [(0, .ref (ad 99)), (1, .int x1), (2, .int v2), (3, .int v3)] → W p l e ({ frames := 3, cells := 0, slots := 0, locals := 68 }) s m [.ref (ad 99), .int x1].toArray below meth c H locs 0 0 (MQ below (Don G A (pO G ad out.1 ++ (zO G ad out.2 ++ []))) [.ref (ad 99), .int x1].toArray s 0 0 A) (F0 m 16 ls []) := by
    intro k16 hk16 p_ad z_ad v2 v3 hf H locs hw ls hl
    unfold b_X3_settle_16 at hf
    refine r_iload0 C hl 3 rfl dX3_settle_16 ?_
    refine lv_bipush (v := 30) C.1 C.2.1 dX3_settle_17 (by decide) ?_
    refine lv_icmp_gt (tgt := 104) C.1 C.2.1 dX3_settle_19 (by decide) (fun hc => ?_) (fun hc => ?_)
    · replace hf := ifp hf hc
      exact hB_104  p_ad z_ad hf _ _ hw _ (lv_sub hl [0, 1] rfl)
    · replace hf := ifn hf hc
      refine r_aload0 C hl 0 rfl dX3_settle_22 ?_
      refine r_iload0 C hl 2 rfl dX3_settle_23 ?_
      obtain ⟨u5, e5, hf⟩ := bx hf
      refine r_callVi (ws' := (pO G ad p_ad ++ (zO G ad z_ad ++ []))) (As := [.int v2]) (rest := []) C hw hl.1 kX3_zoneFor ml_X3_161 (c_X3_zoneFor l G ad _ p_ad z_ad v2 u5 e5) (CutX.take pO_f (CutX.take zO_f CutX.none)) _ (gx_h pO_o) rfl ⟨rfl, rfl⟩ ⟨Nat.le_of_ble_eq_true rfl, Nat.le_of_ble_eq_true rfl⟩ rfl ⟨Nat.zero_le _, Nat.zero_le _⟩ rfl (Nat.le_of_ble_eq_true rfl) dX3_settle_24 (fun H locs hw => ?_)
      refine r_istore C hl [(4, .int u5), (0, .ref (ad 99)), (1, .int x1), (2, .int v2), (3, .int v3)] (by decide) rfl dX3_settle_27 (fun ls hl => ?_)
      refine r_iload C hl 0 rfl dX3_settle_29 ?_
      refine lv_if_lt (tgt := 72) C.1 C.2.1 dX3_settle_31 (by decide) (fun hc => ?_) (fun hc => ?_)
      · replace hf := ifp hf hc
        refine r_aload0 C hl 1 rfl dX3_settle_72 ?_
        obtain ⟨u6, e6, hf⟩ := bx hf
        refine r_callVi (ws' := (pO G ad p_ad ++ (zO G ad z_ad ++ []))) (As := []) (rest := []) C hw hl.1 kX3_coldestLoose ml_X3_138 (c_X3_coldestLoose l G ad _ p_ad u6 e6) (CutX.take pO_f CutX.none) _ (gx_h pO_o) rfl ⟨rfl, rfl⟩ ⟨Nat.le_of_ble_eq_true rfl, Nat.le_of_ble_eq_true rfl⟩ rfl ⟨Nat.zero_le _, Nat.zero_le _⟩ rfl (Nat.le_of_ble_eq_true rfl) dX3_settle_73 (fun H locs hw => ?_)
        refine r_istore C hl [(5, .int u6), (4, .int u5), (0, .ref (ad 99)), (1, .int x1), (2, .int v2), (3, .int v3)] (by decide) rfl dX3_settle_76 (fun ls hl => ?_)
        refine r_iload C hl 0 rfl dX3_settle_78 ?_
        refine lv_if_ge (tgt := 86) C.1 C.2.1 dX3_settle_80 (by decide) (fun hc => ?_) (fun hc => ?_)
        · replace hf := ifp hf hc
          refine r_aload0 C hl 2 rfl dX3_settle_86 ?_
          refine r_iload C hl 0 rfl dX3_settle_87 ?_
          obtain ⟨u7, e7, hf⟩ := bx hf
          refine r_callVv (ws' := (pO G ad u7.1 ++ (zO G ad u7.2 ++ []))) (As := [.int u6]) (rest := []) C hw hl.1 kX3_writeOut ml_X3_123 (c_X3_writeOut l G ad _ p_ad z_ad u6 u7 e7) (CutX.take pO_f (CutX.take zO_f CutX.none)) _ (gx_h pO_o) rfl ⟨rfl, rfl⟩ ⟨Nat.le_of_ble_eq_true rfl, Nat.le_of_ble_eq_true rfl⟩ rfl ⟨Nat.zero_le _, Nat.zero_le _⟩ rfl (Nat.le_of_ble_eq_true rfl) dX3_settle_89 (fun H locs hw => ?_)
          refine r_aload0 C hl 2 rfl dX3_settle_92 ?_
          refine r_iload C hl 0 rfl dX3_settle_93 ?_
          obtain ⟨u8, e8, hf⟩ := bx hf
          refine r_callVv (ws' := (pO G ad u8 ++ (zO G ad u7.2 ++ []))) (As := [.int u6]) (rest := []) C hw hl.1 kX3_notePushed ml_X3_141 (c_X3_notePushed l G ad _ u7.1 u6 u8 e8) (CutX.take pO_f CutX.none) _ (gx_h pO_o) rfl ⟨rfl, rfl⟩ ⟨Nat.le_of_ble_eq_true rfl, Nat.le_of_ble_eq_true rfl⟩ rfl ⟨Nat.zero_le _, Nat.zero_le _⟩ rfl (Nat.le_of_ble_eq_true rfl) dX3_settle_95 (fun H locs hw => ?_)
          refine r_iinc C hl 5 (v3 + 1) [(3, .int (v3 + 1)), (5, .int u6), (4, .int u5), (0, .ref (ad 99)), (1, .int x1), (2, .int v2)] rfl (iinc_e (by decide)) (by decide) rfl dX3_settle_98 (fun ls hl => ?_)
          refine lv_goto (tgt := 16) C.1 C.2.1 dX3_settle_101 (by decide) ?_
          exact hk16 u8 u7.2 v2 (v3 + 1) hf _ _ hw _ (lv_sub hl [3, 4, 5, 0] rfl)
        · replace hf := ifn hf hc
          refine lv_goto (tgt := 104) C.1 C.2.1 dX3_settle_83 (by decide) ?_
          exact hB_104  p_ad z_ad hf _ _ hw _ (lv_sub hl [2, 3] rfl)
      · replace hf := ifn hf hc
        refine r_aload0 C hl 1 rfl dX3_settle_34 ?_
        refine r_get C hw _ (gx_h pO_o) 6 fl_X3_35 rfl dX3_settle_35 ?_
        refine r_iload0 C hl 2 rfl dX3_settle_38 ?_
        refine r_iload C hl 0 rfl dX3_settle_39 ?_
        obtain ⟨p_ad9, e9, hf⟩ := bx hf
        refine r_iast C hw _ (gx_h pO_g6) e9 (pO G ad p_ad9 ++ (zO G ad z_ad ++ [])) (fun h => (sx_h pO_g6 (pO_s6 h))) dX3_settle_41 (fun H locs hw => ?_)
        refine r_aload0 C hl 1 rfl dX3_settle_42 ?_
        refine r_get C hw _ (gx_h pO_o) 7 fl_X3_38 rfl dX3_settle_43 ?_
        refine r_iload0 C hl 2 rfl dX3_settle_46 ?_
        refine r_aload0 C hl 1 rfl dX3_settle_47 ?_
        refine r_get C hw _ (gx_h pO_o) 3 fl_X3_24 rfl dX3_settle_48 ?_
        refine r_iload C hl 0 rfl dX3_settle_51 ?_
        refine r_iload0 C hl 3 rfl dX3_settle_53 ?_
        refine r_iload0 C hl 2 rfl dX3_settle_54 ?_
        obtain ⟨u10, e10, hf⟩ := bx hf
        refine r_callVi (ws' := (pO G ad p_ad9 ++ (zO G ad u10.2 ++ []))) (As := [.int u5, .int v2, .int x1]) (rest := [.int x1, .ref (ad 7)]) C hw hl.1 kX7_putIn ml_X3_157 (c_X7_putIn l G ad _ z_ad u5 v2 x1 u10 e10) (CutX.skip (CutX.take zO_f CutX.none)) _ (gx_t (gx_h zO_o)) rfl ⟨rfl, rfl⟩ ⟨Nat.le_of_ble_eq_true rfl, Nat.le_of_ble_eq_true rfl⟩ rfl ⟨Nat.zero_le _, Nat.zero_le _⟩ rfl (Nat.le_of_ble_eq_true rfl) dX3_settle_55 (fun H locs hw => ?_)
        obtain ⟨p_ad11, e11, hf⟩ := bx hf
        refine r_iast C hw _ (gx_h pO_g7) e11 (pO G ad p_ad11 ++ (zO G ad u10.2 ++ [])) (fun h => (sx_h pO_g7 (pO_s7 h))) dX3_settle_58 (fun H locs hw => ?_)
        refine r_aload0 C hl 1 rfl dX3_settle_59 ?_
        refine r_get C hw _ (gx_h pO_o) 4 fl_X3_28 rfl dX3_settle_60 ?_
        refine r_iload0 C hl 2 rfl dX3_settle_63 ?_
        refine lv_iconst (v := 2) C.1 C.2.1 dX3_settle_64 (by decide) ?_
        obtain ⟨p_ad12, e12, hf⟩ := bx hf
        refine r_iast C hw _ (gx_h pO_g4) e12 (pO G ad p_ad12 ++ (zO G ad u10.2 ++ [])) (fun h => (sx_h pO_g4 (pO_s4 h))) dX3_settle_65 (fun H locs hw => ?_)
        refine r_aload0 C hl 1 rfl dX3_settle_66 ?_
        refine r_iload0 C hl 2 rfl dX3_settle_67 ?_
        obtain ⟨u13, e13, hf⟩ := bx hf
        refine r_callVv (ws' := (pO G ad u13 ++ (zO G ad u10.2 ++ []))) (As := [.int x1]) (rest := []) C hw hl.1 kX3_addYoungest ml_X3_132 (c_X3_addYoungest l G ad _ p_ad12 x1 u13 e13) (CutX.take pO_f CutX.none) _ (gx_h pO_o) rfl ⟨rfl, rfl⟩ ⟨Nat.le_of_ble_eq_true rfl, Nat.le_of_ble_eq_true rfl⟩ rfl ⟨Nat.zero_le _, Nat.zero_le _⟩ rfl (Nat.le_of_ble_eq_true rfl) dX3_settle_68 (fun H locs hw => ?_)
        exact fin_v C hw (Option.some.inj hf) (fun o => (pO G ad o.1 ++ (zO G ad o.2 ++ []))) rfl dX3_settle_71
  have hL_16 : ∀ n : Nat, ∀ (p_ad : Pic) (z_ad : Pic) (v2 : Int32) (v3 : Int32), L_X3_settle_16 x1  n p_ad z_ad v2 v3 = some out → ∀ (H : Heap) (locs : List Loc), Wd G A s H locs (pO G ad p_ad ++ (zO G ad z_ad ++ [])) → ∀ ls : Array Slot, lv_has ls 6 [(0, .ref (ad 99)), (1, .int x1), (2, .int v2), (3, .int v3)] → W p l e ({ frames := 3, cells := 0, slots := 0, locals := 68 }) s m [.ref (ad 99), .int x1].toArray below meth c H locs 0 0 (MQ below (Don G A (pO G ad out.1 ++ (zO G ad out.2 ++ []))) [.ref (ad 99), .int x1].toArray s 0 0 A) (F0 m 16 ls []) := by
    intro  n
    induction n with
    | zero => intro p_ad z_ad v2 v3 hf; cases hf
    | succ n ih => exact hB_16 _ ih
  unfold f_X3_settle at hf
  refine r_aload0 C hl 0 rfl dX3_settle_0 ?_
  refine r_get C hw _ (gx_h pO_o) 5 fl_X3_32 rfl dX3_settle_1 ?_
  refine r_iload0 C hl 1 rfl dX3_settle_4 ?_
  obtain ⟨v1_, e1, hf⟩ := bx hf
  refine r_iald C hw _ (gx_h pO_g5) e1 dX3_settle_5 ?_
  refine r_aload0 C hl 0 rfl dX3_settle_6 ?_
  refine r_get C hw _ (gx_h pO_o) 1 fl_X3_15 rfl dX3_settle_7 ?_
  obtain ⟨u2, e2, hf⟩ := bx hf
  refine r_callSi (ws' := (pO G ad p_ad ++ (zO G ad z_ad ++ []))) (As := [.int v1_, .int (gS p_ad 1)]) (rest := []) C hw hl.1 kX0_homeOf ml_X3_89 (c_X0_homeOf l G _ v1_ (gS p_ad 1) u2 e2) CutX.none ⟨rfl, rfl⟩ ⟨Nat.le_of_ble_eq_true rfl, Nat.le_of_ble_eq_true rfl⟩ rfl ⟨Nat.zero_le _, Nat.zero_le _⟩ rfl (Nat.le_of_ble_eq_true rfl) dX3_settle_10 (fun H locs hw => ?_)
  refine r_istore0 C hl [(2, .int u2), (0, .ref (ad 99)), (1, .int x1)] (by decide) rfl dX3_settle_13 (fun ls hl => ?_)
  refine lv_iconst (v := 0) C.1 C.2.1 dX3_settle_14 (by decide) ?_
  refine r_istore0 C hl [(3, .int 0), (2, .int u2), (0, .ref (ad 99)), (1, .int x1)] (by decide) rfl dX3_settle_15 (fun ls hl => ?_)
  exact hL_16  FU p_ad z_ad u2 0 hf _ _ hw _ (lv_sub hl [2, 3, 1, 0] rfl)
set_option maxHeartbeats 4000000 in
set_option maxRecDepth 100000 in
theorem c_X3_storePage (l : Launch) (G : GG) (ad : Nat → Nat) (ae : Nat → Nat) (sz : Nat) (p_ad : Pic) (z_ad : Pic) (e_ae : Pic) (x1 : Int32) (x3 : Int32) (x4 : Int32) (out : Pic × Pic) (hf : f_X3_storePage p_ad z_ad e_ae x1 x3 x4 = some out) : Met l yX3_storePage (.code yX3_storePage cX3_storePage 5 none :: BT) ({ frames := 4, cells := 0, slots := 0, locals := 93 }) (va_Pc [.ref (ad 99), .int x1, .ref (ae 200), .int x3, .int x4] (PreW G sz (pO G ad p_ad ++ (zO G ad z_ad ++ (eO G ae e_ae ++ []))))) (Don G (va_A (pO G ad p_ad ++ (zO G ad z_ad ++ (eO G ae e_ae ++ []))) sz) (pO G ad out.1 ++ (zO G ad out.2 ++ (eO G ae e_ae ++ [])))) 0 0 (va_A (pO G ad p_ad ++ (zO G ad z_ad ++ (eO G ae e_ae ++ []))) sz) := by
  refine Met.into (by decide) (Nat.le_of_ble_eq_true rfl) ?_
  intro p e s m below meth c C hsz ls hl hw
  have hl : lv_has ls 5 [(0, .ref (ad 99)), (1, .int x1), (2, .ref (ae 200)), (3, .int x3), (4, .int x4)] := hl
  clear hsz
  generalize va_A (pO G ad p_ad ++ (zO G ad z_ad ++ (eO G ae e_ae ++ []))) sz = A at hw ⊢
  unfold f_X3_storePage at hf
  refine r_iload0 C hl 1 rfl dX3_storePage_0 ?_
  obtain ⟨u1, e1, hf⟩ := bx hf
  refine r_callSi (ws' := (pO G ad p_ad ++ (zO G ad z_ad ++ (eO G ae e_ae ++ [])))) (As := [.int x1]) (rest := []) C hw hl.1 kX3_isPage ml_X3_81 (c_X3_isPage l G _ x1 u1 e1) CutX.none ⟨rfl, rfl⟩ ⟨Nat.le_of_ble_eq_true rfl, Nat.le_of_ble_eq_true rfl⟩ rfl ⟨Nat.zero_le _, Nat.zero_le _⟩ rfl (Nat.le_of_ble_eq_true rfl) dX3_storePage_1 (fun H locs hw => ?_)
  refine lv_if_eq (tgt := 20) C.1 C.2.1 dX3_storePage_4 (by decide) (fun hc => ?_) (fun hc => ?_)
  · replace hf := ifp hf hc
    exact fin_v C hw (Option.some.inj hf) (fun o => (pO G ad o.1 ++ (zO G ad o.2 ++ (eO G ae e_ae ++ [])))) rfl dX3_storePage_20
  · replace hf := ifn hf hc
    refine r_iload0 C hl 3 rfl dX3_storePage_7 ?_
    refine lv_if_lt (tgt := 20) C.1 C.2.1 dX3_storePage_8 (by decide) (fun hc => ?_) (fun hc => ?_)
    · replace hf := ifp hf hc
      exact fin_v C hw (Option.some.inj hf) (fun o => (pO G ad o.1 ++ (zO G ad o.2 ++ (eO G ae e_ae ++ [])))) rfl dX3_storePage_20
    · replace hf := ifn hf hc
      refine r_iload0 C hl 3 rfl dX3_storePage_11 ?_
      refine r_aload0 C hl 2 rfl dX3_storePage_12 ?_
      refine r_alen C hw _ (gx_t (gx_t (gx_h eO_g0))) (v := 160) (show Int32.ofNat 160 = 160 from by decide) dX3_storePage_13 ?_
      refine lv_bipush (v := 16) C.1 C.2.1 dX3_storePage_14 (by decide) ?_
      refine lv_isub C.1 C.2.1 dX3_storePage_16 ?_
      refine lv_icmp_le (tgt := 21) C.1 C.2.1 dX3_storePage_17 (by decide) (fun hc => ?_) (fun hc => ?_)
      · replace hf := ifp hf hc
        refine r_aload0 C hl 0 rfl dX3_storePage_21 ?_
        refine lv_iconst (v := 0) C.1 C.2.1 dX3_storePage_22 (by decide) ?_
        obtain ⟨p_ad2, e2, hf⟩ := bx hf
        refine r_put C hw _ (gx_h pO_o) 14 fp_X3_68 rfl rfl (Nat.le_of_ble_eq_true rfl) (pO G ad p_ad2 ++ (zO G ad z_ad ++ (eO G ae e_ae ++ []))) (sx_h pO_o (pO_p14 e2)) dX3_storePage_23 (fun H locs hw => ?_)
        refine r_aload0 C hl 0 rfl dX3_storePage_26 ?_
        refine r_iload0 C hl 1 rfl dX3_storePage_27 ?_
        obtain ⟨u3, e3, hf⟩ := bx hf
        refine r_callVv (ws' := (pO G ad u3.1 ++ (zO G ad u3.2 ++ (eO G ae e_ae ++ [])))) (As := [.int x1]) (rest := []) C hw hl.1 kX3_dropPage ml_X3_114 (c_X3_dropPage l G ad _ p_ad2 z_ad x1 u3 e3) (CutX.take pO_f (CutX.take zO_f CutX.none)) _ (gx_h pO_o) rfl ⟨rfl, rfl⟩ ⟨Nat.le_of_ble_eq_true rfl, Nat.le_of_ble_eq_true rfl⟩ rfl ⟨Nat.zero_le _, Nat.zero_le _⟩ rfl (Nat.le_of_ble_eq_true rfl) dX3_storePage_28 (fun H locs hw => ?_)
        refine r_aload0 C hl 2 rfl dX3_storePage_31 ?_
        refine r_iload0 C hl 3 rfl dX3_storePage_32 ?_
        refine r_aload0 C hl 0 rfl dX3_storePage_33 ?_
        refine r_get C hw _ (gx_h pO_o) 9 fl_X3_44 rfl dX3_storePage_34 ?_
        refine r_iload0 C hl 1 rfl dX3_storePage_37 ?_
        refine lv_bipush (v := 16) C.1 C.2.1 dX3_storePage_38 (by decide) ?_
        refine lv_imul C.1 C.2.1 dX3_storePage_40 ?_
        refine lv_bipush (v := 16) C.1 C.2.1 dX3_storePage_41 (by decide) ?_
        obtain ⟨p_ad4, e4, hf⟩ := bx hf
        refine r_copy C hw hl.1 acl_X3_75 _ _ (gx_t (gx_t (gx_h eO_g0))) (gx_h pO_g9) e4 (pO G ad p_ad4 ++ (zO G ad u3.2 ++ (eO G ae e_ae ++ []))) (fun h => (sx_h pO_g9 (pO_s9 h))) (Nat.le_of_ble_eq_true rfl) (Nat.le_of_ble_eq_true rfl) dX3_storePage_43 (fun H locs hw => ?_)
        refine r_aload0 C hl 0 rfl dX3_storePage_46 ?_
        refine r_get C hw _ (gx_h pO_o) 5 fl_X3_32 rfl dX3_storePage_47 ?_
        refine r_iload0 C hl 1 rfl dX3_storePage_50 ?_
        refine r_iload C hl 4 rfl dX3_storePage_51 ?_
        obtain ⟨p_ad5, e5, hf⟩ := bx hf
        refine r_iast C hw _ (gx_h pO_g5) e5 (pO G ad p_ad5 ++ (zO G ad u3.2 ++ (eO G ae e_ae ++ []))) (fun h => (sx_h pO_g5 (pO_s5 h))) dX3_storePage_53 (fun H locs hw => ?_)
        refine r_iload C hl 4 rfl dX3_storePage_54 ?_
        obtain ⟨u6, e6, hf⟩ := bx hf
        refine r_callSi (ws' := (pO G ad p_ad5 ++ (zO G ad u3.2 ++ (eO G ae e_ae ++ [])))) (As := [.int x4]) (rest := []) C hw hl.1 kX1_isWordSize ml_X3_118 (c_X1_isWordSize l G _ x4 u6 e6) CutX.none ⟨rfl, rfl⟩ ⟨Nat.le_of_ble_eq_true rfl, Nat.le_of_ble_eq_true rfl⟩ rfl ⟨Nat.zero_le _, Nat.zero_le _⟩ rfl (Nat.le_of_ble_eq_true rfl) dX3_storePage_56 (fun H locs hw => ?_)
        refine lv_if_eq (tgt := 72) C.1 C.2.1 dX3_storePage_59 (by decide) (fun hc => ?_) (fun hc => ?_)
        · replace hf := ifp hf hc
          refine r_iload C hl 4 rfl dX3_storePage_72 ?_
          refine r_aload0 C hl 0 rfl dX3_storePage_74 ?_
          refine r_get C hw _ (gx_h pO_o) 2 fl_X3_18 rfl dX3_storePage_75 ?_
          refine lv_icmp_le (tgt := 89) C.1 C.2.1 dX3_storePage_78 (by decide) (fun hc => ?_) (fun hc => ?_)
          · replace hf := ifp hf hc
            refine r_aload0 C hl 0 rfl dX3_storePage_89 ?_
            refine r_iload0 C hl 1 rfl dX3_storePage_90 ?_
            obtain ⟨u7, e7, hf⟩ := bx hf
            refine r_callVv (ws' := (pO G ad u7.1 ++ (zO G ad u7.2 ++ (eO G ae e_ae ++ [])))) (As := [.int x1]) (rest := []) C hw hl.1 kX3_settle ml_X3_126 (c_X3_settle l G ad _ p_ad5 u3.2 x1 u7 e7) (CutX.take pO_f (CutX.take zO_f CutX.none)) _ (gx_h pO_o) rfl ⟨rfl, rfl⟩ ⟨Nat.le_of_ble_eq_true rfl, Nat.le_of_ble_eq_true rfl⟩ rfl ⟨Nat.zero_le _, Nat.zero_le _⟩ rfl (Nat.le_of_ble_eq_true rfl) dX3_storePage_91 (fun H locs hw => ?_)
            exact fin_v C hw (Option.some.inj hf) (fun o => (pO G ad o.1 ++ (zO G ad o.2 ++ (eO G ae e_ae ++ [])))) rfl dX3_storePage_94
          · replace hf := ifn hf hc
            refine r_aload0 C hl 0 rfl dX3_storePage_81 ?_
            refine r_iload0 C hl 1 rfl dX3_storePage_82 ?_
            obtain ⟨u8, e8, hf⟩ := bx hf
            refine r_callVv (ws' := (pO G ad u8.1 ++ (zO G ad u8.2 ++ (eO G ae e_ae ++ [])))) (As := [.int x1]) (rest := []) C hw hl.1 kX3_writeOut ml_X3_123 (c_X3_writeOut l G ad _ p_ad5 u3.2 x1 u8 e8) (CutX.take pO_f (CutX.take zO_f CutX.none)) _ (gx_h pO_o) rfl ⟨rfl, rfl⟩ ⟨Nat.le_of_ble_eq_true rfl, Nat.le_of_ble_eq_true rfl⟩ rfl ⟨Nat.zero_le _, Nat.zero_le _⟩ rfl (Nat.le_of_ble_eq_true rfl) dX3_storePage_83 (fun H locs hw => ?_)
            refine lv_goto (tgt := 94) C.1 C.2.1 dX3_storePage_86 (by decide) ?_
            exact fin_v C hw (Option.some.inj hf) (fun o => (pO G ad o.1 ++ (zO G ad o.2 ++ (eO G ae e_ae ++ [])))) rfl dX3_storePage_94
        · replace hf := ifn hf hc
          refine r_aload0 C hl 0 rfl dX3_storePage_62 ?_
          refine r_get C hw _ (gx_h pO_o) 4 fl_X3_28 rfl dX3_storePage_63 ?_
          refine r_iload0 C hl 1 rfl dX3_storePage_66 ?_
          refine lv_iconst (v := 1) C.1 C.2.1 dX3_storePage_67 (by decide) ?_
          obtain ⟨p_ad9, e9, hf⟩ := bx hf
          refine r_iast C hw _ (gx_h pO_g4) e9 (pO G ad p_ad9 ++ (zO G ad u3.2 ++ (eO G ae e_ae ++ []))) (fun h => (sx_h pO_g4 (pO_s4 h))) dX3_storePage_68 (fun H locs hw => ?_)
          refine lv_goto (tgt := 94) C.1 C.2.1 dX3_storePage_69 (by decide) ?_
          exact fin_v C hw (Option.some.inj hf) (fun o => (pO G ad o.1 ++ (zO G ad o.2 ++ (eO G ae e_ae ++ [])))) rfl dX3_storePage_94
      · replace hf := ifn hf hc
        exact fin_v C hw (Option.some.inj hf) (fun o => (pO G ad o.1 ++ (zO G ad o.2 ++ (eO G ae e_ae ++ [])))) rfl dX3_storePage_20
