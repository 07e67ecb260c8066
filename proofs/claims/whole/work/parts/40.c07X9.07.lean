set_option maxHeartbeats 4000000 in
set_option maxRecDepth 100000 in
theorem c_X9_framesBy (l : Launch) (G : GG) (ad : Nat → Nat) (sz : Nat) (d_ad : Pic) (dw : Int64) (x1 : Int32) (out : Int32) (hf : f_X9_framesBy d_ad x1 = some out) : Met l yX9_framesBy (.code yX9_framesBy cX9_framesBy 6 (some .int) :: BT) ({ frames := 2, cells := 0, slots := 0, locals := 42 }) (va_Pc [.ref (ad 99), .int x1] (PreW G sz (dO G ad d_ad dw ++ []))) (Ans G out (va_A (dO G ad d_ad dw ++ []) sz) (dO G ad d_ad dw ++ [])) 0 0 (va_A (dO G ad d_ad dw ++ []) sz) := by
  refine Met.into (by decide) (Nat.le_of_ble_eq_true rfl) ?_
  intro p e s m below meth c C hsz ls hl hw
  have hl : lv_has ls 6 [(0, .ref (ad 99)), (1, .int x1)] := hl
  clear hsz
  generalize va_A (dO G ad d_ad dw ++ []) sz = A at hw ⊢
  have hB_58 : ∀ (k4 : Int32 → Int32 → Option (Int32)) (hk4 : ∀ (v2 : Int32) (v3 : Int32), k4 v2 v3 = some out → ∀ (H : Heap) (locs : List Loc), Wd G A s H locs (dO G ad d_ad dw ++ []) → ∀ ls : Array Slot, lv_has ls 6 [(0, .ref (ad 99)), (1, .int x1), (2, .int v2), (3, .int v3)] → W p l e ({ frames := 2, cells := 0, slots := 0, locals := 42 }) s m [.ref (ad 99), .int x1].toArray below meth c H locs 0 0 (MQ below (Ans G out A (dO G ad d_ad dw ++ [])) [.ref (ad 99), .int x1].toArray s 0 0 A) (F0 m 4 ls [])) (k16 : Int32 → Int32 → Int32 → Int32 → Option (Int32)) (hk16 : ∀ (v2 : Int32) (v3 : Int32) (v4 : Int32) (v5 : Int32), k16 v2 v3 v4 v5 = some out → ∀ (H : Heap) (locs : List Loc), Wd G A s H locs (dO G ad d_ad dw ++ []) → ∀ ls : Array Slot, lv_has ls 6 [(0, .ref (ad 99)), (1, .int x1), (2, .int v2), (3, .int v3), (4, .int v4), (5, .int v5)] → W p l e ({ frames := 2, cells := 0, slots := 0, locals := 42 }) s m [.ref (ad 99), .int x1].toArray below meth c H locs 0 0 (MQ below (Ans G out A (dO G ad d_ad dw ++ [])) [.ref (ad 99), .int x1].toArray s 0 0 A) (F0 m 16 ls [])), ∀ (v2 : Int32) (v3 : Int32) (v5 : Int32) (t0 : Int32), b_X9_framesBy_58 d_ad x1 k4 k16 v2 v3 v5 t0 = some out → ∀ (H : Heap) (locs : List Loc), Wd G A s H locs (dO G ad d_ad dw ++ []) → ∀ ls : Array Slot, lv_has ls 6 [(0, .ref (ad 99)), (1, .int x1), (2, .int v2), (3, .int v3), (5, .int v5)] → W p l e ({ frames := 2, cells := 0, slots := 0, locals := 42 }) s m [.ref (ad 99), .int x1].toArray below meth c H locs 0 0 (MQ below (Ans G out A (dO G ad d_ad dw ++ [])) [.ref (ad 99), .int x1].toArray s 0 0 A) (F0 m 58 ls [.int t0]) := by
    intro k4 hk4 k16 hk16 v2 v3 v5 t0 hf H locs hw ls hl
    unfold b_X9_framesBy_58 at hf
    refine lv_iconst (v := 0) C.1 C.2.1 dX9_framesBy_58 (by decide) ?_
    refine lv_iadd C.1 C.2.1 dX9_framesBy_59 ?_
    refine r_istore C hl [(4, .int (t0 + 0)), (0, .ref (ad 99)), (1, .int x1), (2, .int v2), (3, .int v3), (5, .int v5)] (by decide) rfl dX9_framesBy_60 (fun ls hl => ?_)
    refine r_iinc C hl 5 (v5 + 1) [(5, .int (v5 + 1)), (4, .int (t0 + 0)), (0, .ref (ad 99)), (1, .int x1), (2, .int v2), (3, .int v3)] rfl (iinc_e (by decide)) (by decide) rfl dX9_framesBy_62 (fun ls hl => ?_)
    refine lv_goto (tgt := 16) C.1 C.2.1 dX9_framesBy_65 (by decide) ?_
    exact hk16 v2 v3 (t0 + 0) (v5 + 1) hf _ _ hw _ (lv_sub hl [2, 3, 4, 5, 1, 0] rfl)
  have hB_16 : ∀ (k4 : Int32 → Int32 → Option (Int32)) (hk4 : ∀ (v2 : Int32) (v3 : Int32), k4 v2 v3 = some out → ∀ (H : Heap) (locs : List Loc), Wd G A s H locs (dO G ad d_ad dw ++ []) → ∀ ls : Array Slot, lv_has ls 6 [(0, .ref (ad 99)), (1, .int x1), (2, .int v2), (3, .int v3)] → W p l e ({ frames := 2, cells := 0, slots := 0, locals := 42 }) s m [.ref (ad 99), .int x1].toArray below meth c H locs 0 0 (MQ below (Ans G out A (dO G ad d_ad dw ++ [])) [.ref (ad 99), .int x1].toArray s 0 0 A) (F0 m 4 ls [])) (k16 : Int32 → Int32 → Int32 → Int32 → Option (Int32)) (hk16 : ∀ (v2 : Int32) (v3 : Int32) (v4 : Int32) (v5 : Int32), k16 v2 v3 v4 v5 = some out → ∀ (H : Heap) (locs : List Loc), Wd G A s H locs (dO G ad d_ad dw ++ []) → ∀ ls : Array Slot, lv_has ls 6 [(0, .ref (ad 99)), (1, .int x1), (2, .int v2), (3, .int v3), (4, .int v4), (5, .int v5)] → W p l e ({ frames := 2, cells := 0, slots := 0, locals := 42 }) s m [.ref (ad 99), .int x1].toArray below meth c H locs 0 0 (MQ below (Ans G out A (dO G ad d_ad dw ++ [])) [.ref (ad 99), .int x1].toArray s 0 0 A) (F0 m 16 ls [])), ∀ (v2 : Int32) (v3 : Int32) (v4 : Int32) (v5 : Int32), b_X9_framesBy_16 d_ad x1 k4 k16 v2 v3 v4 v5 = some out → ∀ (H : Heap) (locs : List Loc), Wd G A s H locs (dO G ad d_ad dw ++ []) → ∀ ls : Array Slot, lv_has ls 6 [(0, .ref (ad 99)), (1, .int x1), (2, .int v2), (3, .int v3), (4, .int v4), (5, .int v5)] → W p l e ({ frames := 2, cells := 0, slots := 0, locals := 42 }) s m [.ref (ad 99), .int x1].toArray below meth c H locs 0 0 (MQ below (Ans G out A (dO G ad d_ad dw ++ [])) [.ref (ad 99), .int x1].toArray s 0 0 A) (F0 m 16 ls []) := by
    intro k4 hk4 k16 hk16 v2 v3 v4 v5 hf H locs hw ls hl
    unfold b_X9_framesBy_16 at hf
    refine r_iload C hl 5 rfl dX9_framesBy_16 ?_
    refine lv_bipush (v := 30) C.1 C.2.1 dX9_framesBy_18 (by decide) ?_
    refine lv_icmp_ge (tgt := 68) C.1 C.2.1 dX9_framesBy_20 (by decide) (fun hc => ?_) (fun hc => ?_)
    · replace hf := ifp hf hc
      refine r_iload0 C hl 2 rfl dX9_framesBy_68 ?_
      refine r_iload C hl 4 rfl dX9_framesBy_69 ?_
      refine r_iload0 C hl 3 rfl dX9_framesBy_71 ?_
      obtain ⟨u1, e1, hf⟩ := bx hf
      refine r_callSi (ws' := (dO G ad d_ad dw ++ [])) (As := [.int v3]) (rest := [.int v4, .int v2]) C hw hl.1 kX9_slotsOf ml_X9_295 (c_X9_slotsOf l G _ v3 u1 e1) CutX.none ⟨rfl, rfl⟩ ⟨Nat.le_of_ble_eq_true rfl, Nat.le_of_ble_eq_true rfl⟩ rfl ⟨Nat.zero_le _, Nat.zero_le _⟩ rfl (Nat.le_of_ble_eq_true rfl) dX9_framesBy_72 (fun H locs hw => ?_)
      refine lv_iadd C.1 C.2.1 dX9_framesBy_75 ?_
      refine lv_iconst (v := 1) C.1 C.2.1 dX9_framesBy_76 (by decide) ?_
      refine lv_isub C.1 C.2.1 dX9_framesBy_77 ?_
      refine r_iload0 C hl 3 rfl dX9_framesBy_78 ?_
      obtain ⟨u2, e2, hf⟩ := bx hf
      refine r_callSi (ws' := (dO G ad d_ad dw ++ [])) (As := [.int v3]) (rest := [.int ((v4 + u1) - 1), .int v2]) C hw hl.1 kX9_slotsOf ml_X9_295 (c_X9_slotsOf l G _ v3 u2 e2) CutX.none ⟨rfl, rfl⟩ ⟨Nat.le_of_ble_eq_true rfl, Nat.le_of_ble_eq_true rfl⟩ rfl ⟨Nat.zero_le _, Nat.zero_le _⟩ rfl (Nat.le_of_ble_eq_true rfl) dX9_framesBy_79 (fun H locs hw => ?_)
      obtain ⟨v3_, e3, hf⟩ := bx hf
      refine r_idiv C e3 dX9_framesBy_82 ?_
      refine r_iload0 C hl 3 rfl dX9_framesBy_83 ?_
      obtain ⟨u4, e4, hf⟩ := bx hf
      refine r_callSi (ws' := (dO G ad d_ad dw ++ [])) (As := [.int v3]) (rest := [.int v3_, .int v2]) C hw hl.1 kX9_framesOf ml_X9_286 (c_X9_framesOf l G _ v3 u4 e4) CutX.none ⟨rfl, rfl⟩ ⟨Nat.le_of_ble_eq_true rfl, Nat.le_of_ble_eq_true rfl⟩ rfl ⟨Nat.zero_le _, Nat.zero_le _⟩ rfl (Nat.le_of_ble_eq_true rfl) dX9_framesBy_84 (fun H locs hw => ?_)
      refine lv_imul C.1 C.2.1 dX9_framesBy_87 ?_
      refine lv_iadd C.1 C.2.1 dX9_framesBy_88 ?_
      refine r_istore0 C hl [(2, .int (v2 + (v3_ * u4))), (0, .ref (ad 99)), (1, .int x1), (3, .int v3), (4, .int v4), (5, .int v5)] (by decide) rfl dX9_framesBy_89 (fun ls hl => ?_)
      refine r_iload0 C hl 3 rfl dX9_framesBy_90 ?_
      refine r_iload0 C hl 2 rfl dX9_framesBy_91 ?_
      refine lv_iadd C.1 C.2.1 dX9_framesBy_92 ?_
      refine r_istore0 C hl [(3, .int (v3 + x1)), (2, .int (v2 + (v3_ * u4))), (0, .ref (ad 99)), (1, .int x1), (4, .int v4), (5, .int v5)] (by decide) rfl dX9_framesBy_93 (fun ls hl => ?_)
      refine lv_goto (tgt := 4) C.1 C.2.1 dX9_framesBy_94 (by decide) ?_
      exact hk4 (v2 + (v3_ * u4)) (v3 + x1) hf _ _ hw _ (lv_sub hl [2, 3, 1, 0] rfl)
    · replace hf := ifn hf hc
      refine r_iload C hl 4 rfl dX9_framesBy_23 ?_
      refine r_aload0 C hl 0 rfl dX9_framesBy_25 ?_
      refine r_iload C hl 5 rfl dX9_framesBy_26 ?_
      obtain ⟨u5, e5, hf⟩ := bx hf
      refine r_callVi (ws' := (dO G ad d_ad dw ++ [])) (As := [.int v5]) (rest := [.int v4]) C hw hl.1 kX9_placeOf ml_X9_325 (c_X9_placeOf l G ad _ d_ad dw v5 u5 e5) (CutX.take dO_f CutX.none) _ (gx_h dO_o) rfl ⟨rfl, rfl⟩ ⟨Nat.le_of_ble_eq_true rfl, Nat.le_of_ble_eq_true rfl⟩ rfl ⟨Nat.zero_le _, Nat.zero_le _⟩ rfl (Nat.le_of_ble_eq_true rfl) dX9_framesBy_28 (fun H locs hw => ?_)
      refine lv_iconst (v := 2) C.1 C.2.1 dX9_framesBy_31 (by decide) ?_
      refine lv_icmp_ne (tgt := 58) C.1 C.2.1 dX9_framesBy_32 (by decide) (fun hc => ?_) (fun hc => ?_)
      · replace hf := ifn hf hc
        exact hB_58 k4 hk4 k16 hk16 v2 v3 v5 v4 hf _ _ hw _ (lv_sub hl [0, 1, 2, 3, 5] rfl)
      · replace hf := ifp hf hc
        refine r_aload0 C hl 0 rfl dX9_framesBy_35 ?_
        refine r_get C hw _ (gx_h dO_o) 20 fl_X9_35 rfl dX9_framesBy_36 ?_
        refine lv_sipush (v := 195) C.1 C.2.1 dX9_framesBy_39 (by decide) ?_
        refine r_iload C hl 5 rfl dX9_framesBy_42 ?_
        refine lv_iadd C.1 C.2.1 dX9_framesBy_44 ?_
        obtain ⟨v6_, e6, hf⟩ := bx hf
        refine r_iald C hw _ (gx_h dO_g20) e6 dX9_framesBy_45 ?_
        refine r_iload0 C hl 1 rfl dX9_framesBy_46 ?_
        obtain ⟨u7, e7, hf⟩ := bx hf
        refine r_callSi (ws' := (dO G ad d_ad dw ++ [])) (As := [.int v6_, .int x1]) (rest := [.int v4]) C hw hl.1 kX9_homeOf ml_X9_289 (c_X9_homeOf l G _ v6_ x1 u7 e7) CutX.none ⟨rfl, rfl⟩ ⟨Nat.le_of_ble_eq_true rfl, Nat.le_of_ble_eq_true rfl⟩ rfl ⟨Nat.zero_le _, Nat.zero_le _⟩ rfl (Nat.le_of_ble_eq_true rfl) dX9_framesBy_47 (fun H locs hw => ?_)
        refine r_iload0 C hl 3 rfl dX9_framesBy_50 ?_
        refine lv_icmp_ne (tgt := 58) C.1 C.2.1 dX9_framesBy_51 (by decide) (fun hc => ?_) (fun hc => ?_)
        · replace hf := ifn hf hc
          exact hB_58 k4 hk4 k16 hk16 v2 v3 v5 v4 hf _ _ hw _ (lv_sub hl [0, 1, 2, 3, 5] rfl)
        · replace hf := ifp hf hc
          refine lv_iconst (v := 1) C.1 C.2.1 dX9_framesBy_54 (by decide) ?_
          refine lv_goto (tgt := 59) C.1 C.2.1 dX9_framesBy_55 (by decide) ?_
          refine lv_iadd C.1 C.2.1 dX9_framesBy_59 ?_
          refine r_istore C hl [(4, .int (v4 + 1)), (0, .ref (ad 99)), (1, .int x1), (2, .int v2), (3, .int v3), (5, .int v5)] (by decide) rfl dX9_framesBy_60 (fun ls hl => ?_)
          refine r_iinc C hl 5 (v5 + 1) [(5, .int (v5 + 1)), (4, .int (v4 + 1)), (0, .ref (ad 99)), (1, .int x1), (2, .int v2), (3, .int v3)] rfl (iinc_e (by decide)) (by decide) rfl dX9_framesBy_62 (fun ls hl => ?_)
          refine lv_goto (tgt := 16) C.1 C.2.1 dX9_framesBy_65 (by decide) ?_
          exact hk16 v2 v3 (v4 + 1) (v5 + 1) hf _ _ hw _ (lv_sub hl [2, 3, 4, 5, 1, 0] rfl)
  have hL_16 : ∀ (k4 : Int32 → Int32 → Option (Int32)) (hk4 : ∀ (v2 : Int32) (v3 : Int32), k4 v2 v3 = some out → ∀ (H : Heap) (locs : List Loc), Wd G A s H locs (dO G ad d_ad dw ++ []) → ∀ ls : Array Slot, lv_has ls 6 [(0, .ref (ad 99)), (1, .int x1), (2, .int v2), (3, .int v3)] → W p l e ({ frames := 2, cells := 0, slots := 0, locals := 42 }) s m [.ref (ad 99), .int x1].toArray below meth c H locs 0 0 (MQ below (Ans G out A (dO G ad d_ad dw ++ [])) [.ref (ad 99), .int x1].toArray s 0 0 A) (F0 m 4 ls [])), ∀ n : Nat, ∀ (v2 : Int32) (v3 : Int32) (v4 : Int32) (v5 : Int32), L_X9_framesBy_16 d_ad x1 k4 n v2 v3 v4 v5 = some out → ∀ (H : Heap) (locs : List Loc), Wd G A s H locs (dO G ad d_ad dw ++ []) → ∀ ls : Array Slot, lv_has ls 6 [(0, .ref (ad 99)), (1, .int x1), (2, .int v2), (3, .int v3), (4, .int v4), (5, .int v5)] → W p l e ({ frames := 2, cells := 0, slots := 0, locals := 42 }) s m [.ref (ad 99), .int x1].toArray below meth c H locs 0 0 (MQ below (Ans G out A (dO G ad d_ad dw ++ [])) [.ref (ad 99), .int x1].toArray s 0 0 A) (F0 m 16 ls []) := by
    intro k4 hk4 n
    induction n with
    | zero => intro v2 v3 v4 v5 hf; cases hf
    | succ n ih => exact hB_16 k4 hk4 _ ih
  have hB_4 : ∀ (k4 : Int32 → Int32 → Option (Int32)) (hk4 : ∀ (v2 : Int32) (v3 : Int32), k4 v2 v3 = some out → ∀ (H : Heap) (locs : List Loc), Wd G A s H locs (dO G ad d_ad dw ++ []) → ∀ ls : Array Slot, lv_has ls 6 [(0, .ref (ad 99)), (1, .int x1), (2, .int v2), (3, .int v3)] → W p l e ({ frames := 2, cells := 0, slots := 0, locals := 42 }) s m [.ref (ad 99), .int x1].toArray below meth c H locs 0 0 (MQ below (Ans G out A (dO G ad d_ad dw ++ [])) [.ref (ad 99), .int x1].toArray s 0 0 A) (F0 m 4 ls [])), ∀ (v2 : Int32) (v3 : Int32), b_X9_framesBy_4 d_ad x1 k4 v2 v3 = some out → ∀ (H : Heap) (locs : List Loc), Wd G A s H locs (dO G ad d_ad dw ++ []) → ∀ ls : Array Slot, lv_has ls 6 [(0, .ref (ad 99)), (1, .int x1), (2, .int v2), (3, .int v3)] → W p l e ({ frames := 2, cells := 0, slots := 0, locals := 42 }) s m [.ref (ad 99), .int x1].toArray below meth c H locs 0 0 (MQ below (Ans G out A (dO G ad d_ad dw ++ [])) [.ref (ad 99), .int x1].toArray s 0 0 A) (F0 m 4 ls []) := by
    intro k4 hk4 v2 v3 hf H locs hw ls hl
    unfold b_X9_framesBy_4 at hf
    refine r_iload0 C hl 3 rfl dX9_framesBy_4 ?_
    refine lv_bipush (v := 16) C.1 C.2.1 dX9_framesBy_5 (by decide) ?_
    refine lv_icmp_gt (tgt := 97) C.1 C.2.1 dX9_framesBy_7 (by decide) (fun hc => ?_) (fun hc => ?_)
    · replace hf := ifp hf hc
      refine r_iload0 C hl 2 rfl dX9_framesBy_97 ?_
      exact fin_i C hw (Option.some.inj hf) (fun o => o) (fun o => (dO G ad d_ad dw ++ [])) rfl rfl dX9_framesBy_98
    · replace hf := ifn hf hc
      refine lv_iconst (v := 0) C.1 C.2.1 dX9_framesBy_10 (by decide) ?_
      refine r_istore C hl [(4, .int 0), (0, .ref (ad 99)), (1, .int x1), (2, .int v2), (3, .int v3)] (by decide) rfl dX9_framesBy_11 (fun ls hl => ?_)
      refine lv_iconst (v := 0) C.1 C.2.1 dX9_framesBy_13 (by decide) ?_
      refine r_istore C hl [(5, .int 0), (4, .int 0), (0, .ref (ad 99)), (1, .int x1), (2, .int v2), (3, .int v3)] (by decide) rfl dX9_framesBy_14 (fun ls hl => ?_)
      exact hL_16 k4 hk4 FU v2 v3 0 0 hf _ _ hw _ (lv_sub hl [2, 3, 4, 5, 1, 0] rfl)
  have hL_4 : ∀ n : Nat, ∀ (v2 : Int32) (v3 : Int32), L_X9_framesBy_4 d_ad x1  n v2 v3 = some out → ∀ (H : Heap) (locs : List Loc), Wd G A s H locs (dO G ad d_ad dw ++ []) → ∀ ls : Array Slot, lv_has ls 6 [(0, .ref (ad 99)), (1, .int x1), (2, .int v2), (3, .int v3)] → W p l e ({ frames := 2, cells := 0, slots := 0, locals := 42 }) s m [.ref (ad 99), .int x1].toArray below meth c H locs 0 0 (MQ below (Ans G out A (dO G ad d_ad dw ++ [])) [.ref (ad 99), .int x1].toArray s 0 0 A) (F0 m 4 ls []) := by
    intro  n
    induction n with
    | zero => intro v2 v3 hf; cases hf
    | succ n ih => exact hB_4 _ ih
  unfold f_X9_framesBy at hf
  refine lv_iconst (v := 0) C.1 C.2.1 dX9_framesBy_0 (by decide) ?_
  refine r_istore0 C hl [(2, .int 0), (0, .ref (ad 99)), (1, .int x1)] (by decide) rfl dX9_framesBy_1 (fun ls hl => ?_)
  refine r_iload0 C hl 2 rfl dX9_framesBy_2 ?_
  refine r_istore0 C hl [(3, .int x1), (2, .int 0), (0, .ref (ad 99)), (1, .int x1)] (by decide) rfl dX9_framesBy_3 (fun ls hl => ?_)
  exact hL_4  FU 0 x1 hf _ _ hw _ (lv_sub hl [2, 3, 1, 0] rfl)
set_option maxHeartbeats 4000000 in
set_option maxRecDepth 100000 in
theorem c_X9_fittest (l : Launch) (G : GG) (ad : Nat → Nat) (sz : Nat) (d_ad : Pic) (dw : Int64)  (out : Int32 × Pic) (hf : f_X9_fittest d_ad = some out) : Met l yX9_fittest (.code yX9_fittest cX9_fittest 3 (some .int) :: BT) ({ frames := 3, cells := 0, slots := 0, locals := 67 }) (va_Pc [.ref (ad 99)] (PreW G sz (dO G ad d_ad dw ++ []))) (Ans G out.1 (va_A (dO G ad d_ad dw ++ []) sz) (dO G ad out.2 dw ++ [])) 0 0 (va_A (dO G ad d_ad dw ++ []) sz) := by
  refine Met.into (by decide) (Nat.le_of_ble_eq_true rfl) ?_
  intro p e s m below meth c C hsz ls hl hw
  have hl : lv_has ls 3 [(0, .ref (ad 99))] := hl
  clear hsz
  generalize va_A (dO G ad d_ad dw ++ []) sz = A at hw ⊢
  have hB_22 : ∀ (k22 : Pic → Int32 → Int32 → Option (Int32 × Pic)) (hk22 : ∀ (d_ad : Pic) (v1 : Int32) (v2 : Int32), k22 d_ad v1 v2 = some out → ∀ (H : Heap) (locs : List Loc), Wd G A s H locs (dO G ad d_ad dw ++ []) → ∀ ls : Array Slot, lv_has ls 3 [(0, .ref (ad 99)), (1, .int v1), (2, .int v2)] → W p l e ({ frames := 3, cells := 0, slots := 0, locals := 67 }) s m [.ref (ad 99)].toArray below meth c H locs 0 0 (MQ below (Ans G out.1 A (dO G ad out.2 dw ++ [])) [.ref (ad 99)].toArray s 0 0 A) (F0 m 22 ls [])), ∀ (d_ad : Pic) (v1 : Int32) (v2 : Int32), b_X9_fittest_22  k22 d_ad v1 v2 = some out → ∀ (H : Heap) (locs : List Loc), Wd G A s H locs (dO G ad d_ad dw ++ []) → ∀ ls : Array Slot, lv_has ls 3 [(0, .ref (ad 99)), (1, .int v1), (2, .int v2)] → W p l e ({ frames := 3, cells := 0, slots := 0, locals := 67 }) s m [.ref (ad 99)].toArray below meth c H locs 0 0 (MQ below (Ans G out.1 A (dO G ad out.2 dw ++ [])) [.ref (ad 99)].toArray s 0 0 A) (F0 m 22 ls []) := by
    intro k22 hk22 d_ad v1 v2 hf H locs hw ls hl
    unfold b_X9_fittest_22 at hf
    refine r_iload0 C hl 2 rfl dX9_fittest_22 ?_
    refine lv_iconst (v := 4) C.1 C.2.1 dX9_fittest_23 (by decide) ?_
    refine lv_icmp_gt (tgt := 48) C.1 C.2.1 dX9_fittest_24 (by decide) (fun hc => ?_) (fun hc => ?_)
    · replace hf := ifp hf hc
      refine r_aload0 C hl 0 rfl dX9_fittest_48 ?_
      refine r_iload0 C hl 1 rfl dX9_fittest_49 ?_
      obtain ⟨u2, e2, hf⟩ := bx hf
      refine r_callVi (ws' := (dO G ad u2.2 dw ++ [])) (As := [.int v1]) (rest := []) C hw hl.1 kX9_good ml_X9_222 (c_X9_good l G ad _ d_ad dw v1 u2 e2) (CutX.take dO_f CutX.none) _ (gx_h dO_o) rfl ⟨rfl, rfl⟩ ⟨Nat.le_of_ble_eq_true rfl, Nat.le_of_ble_eq_true rfl⟩ rfl ⟨Nat.zero_le _, Nat.zero_le _⟩ rfl (Nat.le_of_ble_eq_true rfl) dX9_fittest_50 (fun H locs hw => ?_)
      exact fin_i C hw (Option.some.inj hf) (fun o => o.1) (fun o => (dO G ad o.2 dw ++ [])) rfl rfl dX9_fittest_53
    · replace hf := ifn hf hc
      refine r_aload0 C hl 0 rfl dX9_fittest_27 ?_
      refine r_iload0 C hl 2 rfl dX9_fittest_28 ?_
      obtain ⟨u3, e3, hf⟩ := bx hf
      refine r_callVi (ws' := (dO G ad d_ad dw ++ [])) (As := [.int v2]) (rest := []) C hw hl.1 kX9_framesBy ml_X9_407 (c_X9_framesBy l G ad _ d_ad dw v2 u3 e3) (CutX.take dO_f CutX.none) _ (gx_h dO_o) rfl ⟨rfl, rfl⟩ ⟨Nat.le_of_ble_eq_true rfl, Nat.le_of_ble_eq_true rfl⟩ rfl ⟨Nat.zero_le _, Nat.zero_le _⟩ rfl (Nat.le_of_ble_eq_true rfl) dX9_fittest_29 (fun H locs hw => ?_)
      refine r_aload0 C hl 0 rfl dX9_fittest_32 ?_
      refine r_iload0 C hl 1 rfl dX9_fittest_33 ?_
      obtain ⟨u4, e4, hf⟩ := bx hf
      refine r_callVi (ws' := (dO G ad d_ad dw ++ [])) (As := [.int v1]) (rest := [.int u3]) C hw hl.1 kX9_framesBy ml_X9_407 (c_X9_framesBy l G ad _ d_ad dw v1 u4 e4) (CutX.take dO_f CutX.none) _ (gx_h dO_o) rfl ⟨rfl, rfl⟩ ⟨Nat.le_of_ble_eq_true rfl, Nat.le_of_ble_eq_true rfl⟩ rfl ⟨Nat.zero_le _, Nat.zero_le _⟩ rfl (Nat.le_of_ble_eq_true rfl) dX9_fittest_34 (fun H locs hw => ?_)
      refine lv_icmp_ge (tgt := 42) C.1 C.2.1 dX9_fittest_37 (by decide) (fun hc => ?_) (fun hc => ?_)
      · replace hf := ifp hf hc
        refine r_iinc C hl 2 (v2 + 1) [(2, .int (v2 + 1)), (0, .ref (ad 99)), (1, .int v1)] rfl (iinc_e (by decide)) (by decide) rfl dX9_fittest_42 (fun ls hl => ?_)
        refine lv_goto (tgt := 22) C.1 C.2.1 dX9_fittest_45 (by decide) ?_
        exact hk22 d_ad v1 (v2 + 1) hf _ _ hw _ (lv_sub hl [1, 2, 0] rfl)
      · replace hf := ifn hf hc
        refine r_iload0 C hl 2 rfl dX9_fittest_40 ?_
        refine r_istore0 C hl [(1, .int v2), (0, .ref (ad 99)), (2, .int v2)] (by decide) rfl dX9_fittest_41 (fun ls hl => ?_)
        refine r_iinc C hl 2 (v2 + 1) [(2, .int (v2 + 1)), (1, .int v2), (0, .ref (ad 99))] rfl (iinc_e (by decide)) (by decide) rfl dX9_fittest_42 (fun ls hl => ?_)
        refine lv_goto (tgt := 22) C.1 C.2.1 dX9_fittest_45 (by decide) ?_
        exact hk22 d_ad v2 (v2 + 1) hf _ _ hw _ (lv_sub hl [2, 1, 0] rfl)
  have hL_22 : ∀ n : Nat, ∀ (d_ad : Pic) (v1 : Int32) (v2 : Int32), L_X9_fittest_22   n d_ad v1 v2 = some out → ∀ (H : Heap) (locs : List Loc), Wd G A s H locs (dO G ad d_ad dw ++ []) → ∀ ls : Array Slot, lv_has ls 3 [(0, .ref (ad 99)), (1, .int v1), (2, .int v2)] → W p l e ({ frames := 3, cells := 0, slots := 0, locals := 67 }) s m [.ref (ad 99)].toArray below meth c H locs 0 0 (MQ below (Ans G out.1 A (dO G ad out.2 dw ++ [])) [.ref (ad 99)].toArray s 0 0 A) (F0 m 22 ls []) := by
    intro  n
    induction n with
    | zero => intro d_ad v1 v2 hf; cases hf
    | succ n ih => exact hB_22 _ ih
  unfold f_X9_fittest at hf
  refine r_aload0 C hl 0 rfl dX9_fittest_0 ?_
  refine lv_iconst (v := 0) C.1 C.2.1 dX9_fittest_1 (by decide) ?_
  obtain ⟨d_ad1, e1, hf⟩ := bx hf
  refine r_put C hw _ (gx_h dO_o) 0 fp_X9_75 rfl rfl (Nat.le_of_ble_eq_true rfl) (dO G ad d_ad1 dw ++ []) (sx_h dO_o (dO_p0 e1)) dX9_fittest_2 (fun H locs hw => ?_)
  refine r_aload0 C hl 0 rfl dX9_fittest_5 ?_
  refine r_get C hw _ (gx_h dO_o) 19 fl_X9_225 rfl dX9_fittest_6 ?_
  refine lv_if_ne (tgt := 18) C.1 C.2.1 dX9_fittest_9 (by decide) (fun hc => ?_) (fun hc => ?_)
  · replace hf := ifn hf hc
    refine lv_iconst (v := 1) C.1 C.2.1 dX9_fittest_18 (by decide) ?_
    refine r_istore0 C hl [(1, .int 1), (0, .ref (ad 99))] (by decide) rfl dX9_fittest_19 (fun ls hl => ?_)
    refine lv_iconst (v := 2) C.1 C.2.1 dX9_fittest_20 (by decide) ?_
    refine r_istore0 C hl [(2, .int 2), (1, .int 1), (0, .ref (ad 99))] (by decide) rfl dX9_fittest_21 (fun ls hl => ?_)
    exact hL_22  FU d_ad1 1 2 hf _ _ hw _ (lv_sub hl [2, 1, 0] rfl)
  · replace hf := ifp hf hc
    refine r_aload0 C hl 0 rfl dX9_fittest_12 ?_
    refine lv_iconst (v := 1) C.1 C.2.1 dX9_fittest_13 (by decide) ?_
    obtain ⟨u5, e5, hf⟩ := bx hf
    refine r_callVi (ws' := (dO G ad u5.2 dw ++ [])) (As := [.int 1]) (rest := []) C hw hl.1 kX9_refused ml_X9_210 (c_X9_refused l G ad _ d_ad1 dw 1 u5 e5) (CutX.take dO_f CutX.none) _ (gx_h dO_o) rfl ⟨rfl, rfl⟩ ⟨Nat.le_of_ble_eq_true rfl, Nat.le_of_ble_eq_true rfl⟩ rfl ⟨Nat.zero_le _, Nat.zero_le _⟩ rfl (Nat.le_of_ble_eq_true rfl) dX9_fittest_14 (fun H locs hw => ?_)
    exact fin_i C hw (Option.some.inj hf) (fun o => o.1) (fun o => (dO G ad o.2 dw ++ [])) rfl rfl dX9_fittest_17
set_option maxHeartbeats 4000000 in
set_option maxRecDepth 100000 in
theorem c_X9_layPushes (l : Launch) (G : GG) (ad : Nat → Nat) (sz : Nat) (d_ad : Pic) (dw : Int64) (x1 : Int32) (x2 : Int32) (out : Int32 × Pic) (hf : f_X9_layPushes d_ad x1 x2 = some out) : Met l yX9_layPushes (.code yX9_layPushes cX9_layPushes 3 (some .boolean) :: BT) ({ frames := 6, cells := 0, slots := 0, locals := 135 }) (va_Pc [.ref (ad 99), .int x1, .int x2] (PreW G sz (dO G ad d_ad dw ++ []))) (Ans G out.1 (va_A (dO G ad d_ad dw ++ []) sz) (dO G ad out.2 dw ++ [])) 0 0 (va_A (dO G ad d_ad dw ++ []) sz) := by
  refine Met.into (by decide) (Nat.le_of_ble_eq_true rfl) ?_
  intro p e s m below meth c C hsz ls hl hw
  have hl : lv_has ls 3 [(0, .ref (ad 99)), (1, .int x1), (2, .int x2)] := hl
  clear hsz
  generalize va_A (dO G ad d_ad dw ++ []) sz = A at hw ⊢
  unfold f_X9_layPushes at hf
  refine r_aload0 C hl 0 rfl dX9_layPushes_0 ?_
  refine r_iload0 C hl 1 rfl dX9_layPushes_1 ?_
  obtain ⟨u1, e1, hf⟩ := bx hf
  refine r_callVi (ws' := (dO G ad d_ad dw ++ [])) (As := [.int x1]) (rest := []) C hw hl.1 kX9_isPage ml_X9_374 (c_X9_isPage l G ad _ d_ad dw x1 u1 e1) (CutX.take dO_f CutX.none) _ (gx_h dO_o) rfl ⟨rfl, rfl⟩ ⟨Nat.le_of_ble_eq_true rfl, Nat.le_of_ble_eq_true rfl⟩ rfl ⟨Nat.zero_le _, Nat.zero_le _⟩ rfl (Nat.le_of_ble_eq_true rfl) dX9_layPushes_2 (fun H locs hw => ?_)
  refine lv_if_eq (tgt := 16) C.1 C.2.1 dX9_layPushes_5 (by decide) (fun hc => ?_) (fun hc => ?_)
  · replace hf := ifp hf hc
    refine lv_iconst (v := 0) C.1 C.2.1 dX9_layPushes_16 (by decide) ?_
    exact fin_z C hw (by decide) (Option.some.inj hf) (fun o => o.1) (fun o => (dO G ad o.2 dw ++ [])) rfl rfl dX9_layPushes_17
  · replace hf := ifn hf hc
    refine r_aload0 C hl 0 rfl dX9_layPushes_8 ?_
    refine r_iload0 C hl 2 rfl dX9_layPushes_9 ?_
    obtain ⟨u2, e2, hf⟩ := bx hf
    refine r_callVi (ws' := (dO G ad d_ad dw ++ [])) (As := [.int x2]) (rest := []) C hw hl.1 kX9_isData ml_X9_271 (c_X9_isData l G ad _ d_ad dw x2 u2 e2) (CutX.take dO_f CutX.none) _ (gx_h dO_o) rfl ⟨rfl, rfl⟩ ⟨Nat.le_of_ble_eq_true rfl, Nat.le_of_ble_eq_true rfl⟩ rfl ⟨Nat.zero_le _, Nat.zero_le _⟩ rfl (Nat.le_of_ble_eq_true rfl) dX9_layPushes_10 (fun H locs hw => ?_)
    refine lv_if_ne (tgt := 18) C.1 C.2.1 dX9_layPushes_13 (by decide) (fun hc => ?_) (fun hc => ?_)
    · replace hf := ifn hf hc
      refine r_aload0 C hl 0 rfl dX9_layPushes_18 ?_
      obtain ⟨u3, e3, hf⟩ := bx hf
      refine r_callVv (ws' := (dO G ad u3 dw ++ [])) (As := []) (rest := []) C hw hl.1 kX9_keepsAside ml_X9_395 (c_X9_keepsAside l G ad _ d_ad dw u3 e3) (CutX.take dO_f CutX.none) _ (gx_h dO_o) rfl ⟨rfl, rfl⟩ ⟨Nat.le_of_ble_eq_true rfl, Nat.le_of_ble_eq_true rfl⟩ rfl ⟨Nat.zero_le _, Nat.zero_le _⟩ rfl (Nat.le_of_ble_eq_true rfl) dX9_layPushes_19 (fun H locs hw => ?_)
      refine r_aload0 C hl 0 rfl dX9_layPushes_22 ?_
      refine r_iload0 C hl 1 rfl dX9_layPushes_23 ?_
      refine r_iload0 C hl 2 rfl dX9_layPushes_24 ?_
      obtain ⟨u4, e4, hf⟩ := bx hf
      refine r_callVi (ws' := (dO G ad u4.2 dw ++ [])) (As := [.int x1, .int x2]) (rest := []) C hw hl.1 kX9_stores ml_X9_410 (c_X9_stores l G ad _ u3 dw x1 x2 u4 e4) (CutX.take dO_f CutX.none) _ (gx_h dO_o) rfl ⟨rfl, rfl⟩ ⟨Nat.le_of_ble_eq_true rfl, Nat.le_of_ble_eq_true rfl⟩ rfl ⟨Nat.zero_le _, Nat.zero_le _⟩ rfl (Nat.le_of_ble_eq_true rfl) dX9_layPushes_25 (fun H locs hw => ?_)
      refine lv_pop C.1 C.2.1 dX9_layPushes_28 rfl ?_
      refine r_aload0 C hl 0 rfl dX9_layPushes_29 ?_
      obtain ⟨u5, e5, hf⟩ := bx hf
      refine r_callVv (ws' := (dO G ad u5 dw ++ [])) (As := []) (rest := []) C hw hl.1 kX9_bringsBack ml_X9_401 (c_X9_bringsBack l G ad _ u4.2 dw u5 e5) (CutX.take dO_f CutX.none) _ (gx_h dO_o) rfl ⟨rfl, rfl⟩ ⟨Nat.le_of_ble_eq_true rfl, Nat.le_of_ble_eq_true rfl⟩ rfl ⟨Nat.zero_le _, Nat.zero_le _⟩ rfl (Nat.le_of_ble_eq_true rfl) dX9_layPushes_30 (fun H locs hw => ?_)
      refine lv_iconst (v := 1) C.1 C.2.1 dX9_layPushes_33 (by decide) ?_
      exact fin_z C hw (by decide) (Option.some.inj hf) (fun o => o.1) (fun o => (dO G ad o.2 dw ++ [])) rfl rfl dX9_layPushes_34
    · replace hf := ifp hf hc
      refine lv_iconst (v := 0) C.1 C.2.1 dX9_layPushes_16 (by decide) ?_
      exact fin_z C hw (by decide) (Option.some.inj hf) (fun o => o.1) (fun o => (dO G ad o.2 dw ++ [])) rfl rfl dX9_layPushes_17
set_option maxHeartbeats 4000000 in
set_option maxRecDepth 100000 in
theorem c_X9_pushes (l : Launch) (G : GG) (ad : Nat → Nat) (sz : Nat) (d_ad : Pic) (dw : Int64) (x1 : Int32) (x2 : Int32) (out : Int32 × Pic) (hf : f_X9_pushes d_ad x1 x2 = some out) : Met l yX9_pushes (.code yX9_pushes cX9_pushes 3 (some .int) :: BT) ({ frames := 7, cells := 0, slots := 0, locals := 157 }) (va_Pc [.ref (ad 99), .int x1, .int x2] (PreW G sz (dO G ad d_ad dw ++ []))) (Ans G out.1 (va_A (dO G ad d_ad dw ++ []) sz) (dO G ad out.2 dw ++ [])) 0 0 (va_A (dO G ad d_ad dw ++ []) sz) := by
  refine Met.into (by decide) (Nat.le_of_ble_eq_true rfl) ?_
  intro p e s m below meth c C hsz ls hl hw
  have hl : lv_has ls 3 [(0, .ref (ad 99)), (1, .int x1), (2, .int x2)] := hl
  clear hsz
  generalize va_A (dO G ad d_ad dw ++ []) sz = A at hw ⊢
  unfold f_X9_pushes at hf
  refine r_aload0 C hl 0 rfl dX9_pushes_0 ?_
  refine lv_iconst (v := 0) C.1 C.2.1 dX9_pushes_1 (by decide) ?_
  obtain ⟨d_ad1, e1, hf⟩ := bx hf
  refine r_put C hw _ (gx_h dO_o) 0 fp_X9_75 rfl rfl (Nat.le_of_ble_eq_true rfl) (dO G ad d_ad1 dw ++ []) (sx_h dO_o (dO_p0 e1)) dX9_pushes_2 (fun H locs hw => ?_)
  refine r_aload0 C hl 0 rfl dX9_pushes_5 ?_
  refine r_iload0 C hl 1 rfl dX9_pushes_6 ?_
  refine r_iload0 C hl 2 rfl dX9_pushes_7 ?_
  obtain ⟨u2, e2, hf⟩ := bx hf
  refine r_callVi (ws' := (dO G ad u2.2 dw ++ [])) (As := [.int x1, .int x2]) (rest := []) C hw hl.1 kX9_layPushes ml_X9_413 (c_X9_layPushes l G ad _ d_ad1 dw x1 x2 u2 e2) (CutX.take dO_f CutX.none) _ (gx_h dO_o) rfl ⟨rfl, rfl⟩ ⟨Nat.le_of_ble_eq_true rfl, Nat.le_of_ble_eq_true rfl⟩ rfl ⟨Nat.zero_le _, Nat.zero_le _⟩ rfl (Nat.le_of_ble_eq_true rfl) dX9_pushes_8 (fun H locs hw => ?_)
  refine lv_if_eq (tgt := 25) C.1 C.2.1 dX9_pushes_11 (by decide) (fun hc => ?_) (fun hc => ?_)
  · replace hf := ifp hf hc
    refine r_aload0 C hl 0 rfl dX9_pushes_25 ?_
    refine lv_iconst (v := 1) C.1 C.2.1 dX9_pushes_26 (by decide) ?_
    obtain ⟨u3, e3, hf⟩ := bx hf
    refine r_callVi (ws' := (dO G ad u3.2 dw ++ [])) (As := [.int 1]) (rest := []) C hw hl.1 kX9_refused ml_X9_210 (c_X9_refused l G ad _ u2.2 dw 1 u3 e3) (CutX.take dO_f CutX.none) _ (gx_h dO_o) rfl ⟨rfl, rfl⟩ ⟨Nat.le_of_ble_eq_true rfl, Nat.le_of_ble_eq_true rfl⟩ rfl ⟨Nat.zero_le _, Nat.zero_le _⟩ rfl (Nat.le_of_ble_eq_true rfl) dX9_pushes_27 (fun H locs hw => ?_)
    exact fin_i C hw (Option.some.inj hf) (fun o => o.1) (fun o => (dO G ad o.2 dw ++ [])) rfl rfl dX9_pushes_30
  · replace hf := ifn hf hc
    refine r_aload0 C hl 0 rfl dX9_pushes_14 ?_
    refine r_aload0 C hl 0 rfl dX9_pushes_15 ?_
    refine r_get C hw _ (gx_h dO_o) 43 fl_X9_343 rfl dX9_pushes_16 ?_
    obtain ⟨u4, e4, hf⟩ := bx hf
    refine r_callVi (ws' := (dO G ad u4.2 dw ++ [])) (As := [.int (gS u2.2 43)]) (rest := []) C hw hl.1 kX9_good ml_X9_222 (c_X9_good l G ad _ u2.2 dw (gS u2.2 43) u4 e4) (CutX.take dO_f CutX.none) _ (gx_h dO_o) rfl ⟨rfl, rfl⟩ ⟨Nat.le_of_ble_eq_true rfl, Nat.le_of_ble_eq_true rfl⟩ rfl ⟨Nat.zero_le _, Nat.zero_le _⟩ rfl (Nat.le_of_ble_eq_true rfl) dX9_pushes_19 (fun H locs hw => ?_)
    refine lv_goto (tgt := 30) C.1 C.2.1 dX9_pushes_22 (by decide) ?_
    exact fin_i C hw (Option.some.inj hf) (fun o => o.1) (fun o => (dO G ad o.2 dw ++ [])) rfl rfl dX9_pushes_30
set_option maxHeartbeats 4000000 in
set_option maxRecDepth 100000 in
theorem c_X9_pushed (l : Launch) (G : GG) (ad : Nat → Nat) (sz : Nat) (d_ad : Pic) (dw : Int64) (x1 : Int32) (x2 : Int32) (x3 : Int32) (out : Int32 × Pic) (hf : f_X9_pushed d_ad x1 x2 x3 = some out) : Met l yX9_pushed (.code yX9_pushed cX9_pushed 4 (some .int) :: BT) ({ frames := 7, cells := 0, slots := 0, locals := 157 }) (va_Pc [.ref (ad 99), .int x1, .int x2, .int x3] (PreW G sz (dO G ad d_ad dw ++ []))) (Ans G out.1 (va_A (dO G ad d_ad dw ++ []) sz) (dO G ad out.2 dw ++ [])) 0 0 (va_A (dO G ad d_ad dw ++ []) sz) := by
  refine Met.into (by decide) (Nat.le_of_ble_eq_true rfl) ?_
  intro p e s m below meth c C hsz ls hl hw
  have hl : lv_has ls 4 [(0, .ref (ad 99)), (1, .int x1), (2, .int x2), (3, .int x3)] := hl
  clear hsz
  generalize va_A (dO G ad d_ad dw ++ []) sz = A at hw ⊢
  have hB_26 : ∀ (d_ad : Pic), b_X9_pushed_26 x1 x2 x3  d_ad = some out → ∀ (H : Heap) (locs : List Loc), Wd G A s H locs (dO G ad d_ad dw ++ []) → ∀ ls : Array Slot, lv_has ls 4 [(0, .ref (ad 99))] → W p l e ({ frames := 7, cells := 0, slots := 0, locals := 157 }) s m [.ref (ad 99), .int x1, .int x2, .int x3].toArray below meth c H locs 0 0 (MQ below (Ans G out.1 A (dO G ad out.2 dw ++ [])) [.ref (ad 99), .int x1, .int x2, .int x3].toArray s 0 0 A) (F0 m 26 ls []) := by
    intro d_ad hf H locs hw ls hl
    unfold b_X9_pushed_26 at hf
    refine r_aload0 C hl 0 rfl dX9_pushed_26 ?_
    refine lv_iconst (v := 1) C.1 C.2.1 dX9_pushed_27 (by decide) ?_
    obtain ⟨u3, e3, hf⟩ := bx hf
    refine r_callVi (ws' := (dO G ad u3.2 dw ++ [])) (As := [.int 1]) (rest := []) C hw hl.1 kX9_refused ml_X9_210 (c_X9_refused l G ad _ d_ad dw 1 u3 e3) (CutX.take dO_f CutX.none) _ (gx_h dO_o) rfl ⟨rfl, rfl⟩ ⟨Nat.le_of_ble_eq_true rfl, Nat.le_of_ble_eq_true rfl⟩ rfl ⟨Nat.zero_le _, Nat.zero_le _⟩ rfl (Nat.le_of_ble_eq_true rfl) dX9_pushed_28 (fun H locs hw => ?_)
    exact fin_i C hw (Option.some.inj hf) (fun o => o.1) (fun o => (dO G ad o.2 dw ++ [])) rfl rfl dX9_pushed_31
  unfold f_X9_pushed at hf
  refine r_aload0 C hl 0 rfl dX9_pushed_0 ?_
  refine lv_iconst (v := 0) C.1 C.2.1 dX9_pushed_1 (by decide) ?_
  obtain ⟨d_ad1, e1, hf⟩ := bx hf
  refine r_put C hw _ (gx_h dO_o) 0 fp_X9_75 rfl rfl (Nat.le_of_ble_eq_true rfl) (dO G ad d_ad1 dw ++ []) (sx_h dO_o (dO_p0 e1)) dX9_pushed_2 (fun H locs hw => ?_)
  refine r_aload0 C hl 0 rfl dX9_pushed_5 ?_
  refine r_iload0 C hl 1 rfl dX9_pushed_6 ?_
  refine r_iload0 C hl 2 rfl dX9_pushed_7 ?_
  obtain ⟨u2, e2, hf⟩ := bx hf
  refine r_callVi (ws' := (dO G ad u2.2 dw ++ [])) (As := [.int x1, .int x2]) (rest := []) C hw hl.1 kX9_layPushes ml_X9_413 (c_X9_layPushes l G ad _ d_ad1 dw x1 x2 u2 e2) (CutX.take dO_f CutX.none) _ (gx_h dO_o) rfl ⟨rfl, rfl⟩ ⟨Nat.le_of_ble_eq_true rfl, Nat.le_of_ble_eq_true rfl⟩ rfl ⟨Nat.zero_le _, Nat.zero_le _⟩ rfl (Nat.le_of_ble_eq_true rfl) dX9_pushed_8 (fun H locs hw => ?_)
  refine lv_if_eq (tgt := 26) C.1 C.2.1 dX9_pushed_11 (by decide) (fun hc => ?_) (fun hc => ?_)
  · replace hf := ifp hf hc
    exact hB_26  u2.2 hf _ _ hw _ (lv_sub hl [0] rfl)
  · replace hf := ifn hf hc
    refine r_iload0 C hl 3 rfl dX9_pushed_14 ?_
    refine lv_if_lt (tgt := 26) C.1 C.2.1 dX9_pushed_15 (by decide) (fun hc => ?_) (fun hc => ?_)
    · replace hf := ifp hf hc
      exact hB_26  u2.2 hf _ _ hw _ (lv_sub hl [0] rfl)
    · replace hf := ifn hf hc
      refine r_iload0 C hl 3 rfl dX9_pushed_18 ?_
      refine r_aload0 C hl 0 rfl dX9_pushed_19 ?_
      refine r_get C hw _ (gx_h dO_o) 43 fl_X9_343 rfl dX9_pushed_20 ?_
      refine lv_icmp_lt (tgt := 32) C.1 C.2.1 dX9_pushed_23 (by decide) (fun hc => ?_) (fun hc => ?_)
      · replace hf := ifp hf hc
        refine r_aload0 C hl 0 rfl dX9_pushed_32 ?_
        refine r_aload0 C hl 0 rfl dX9_pushed_33 ?_
        refine r_get C hw _ (gx_h dO_o) 42 fl_X9_72 rfl dX9_pushed_34 ?_
        refine r_iload0 C hl 3 rfl dX9_pushed_37 ?_
        obtain ⟨v4_, e4, hf⟩ := bx hf
        refine r_iald C hw _ (gx_h dO_g42) e4 dX9_pushed_38 ?_
        obtain ⟨u5, e5, hf⟩ := bx hf
        refine r_callVi (ws' := (dO G ad u5.2 dw ++ [])) (As := [.int v4_]) (rest := []) C hw hl.1 kX9_good ml_X9_222 (c_X9_good l G ad _ u2.2 dw v4_ u5 e5) (CutX.take dO_f CutX.none) _ (gx_h dO_o) rfl ⟨rfl, rfl⟩ ⟨Nat.le_of_ble_eq_true rfl, Nat.le_of_ble_eq_true rfl⟩ rfl ⟨Nat.zero_le _, Nat.zero_le _⟩ rfl (Nat.le_of_ble_eq_true rfl) dX9_pushed_39 (fun H locs hw => ?_)
        exact fin_i C hw (Option.some.inj hf) (fun o => o.1) (fun o => (dO G ad o.2 dw ++ [])) rfl rfl dX9_pushed_42
      · replace hf := ifn hf hc
        exact hB_26  u2.2 hf _ _ hw _ (lv_sub hl [0] rfl)
set_option maxHeartbeats 4000000 in
set_option maxRecDepth 100000 in
theorem c_X9_does (l : Launch) (G : GG) (ad : Nat → Nat) (sz : Nat) (d_ad : Pic) (dw : Int64) (x1 : Int32) (out : Pic) (hf : f_X9_does d_ad x1 = some out) : Met l yX9_does (.code yX9_does cX9_does 3 none :: BT) ({ frames := 6, cells := 0, slots := 0, locals := 135 }) (va_Pc [.ref (ad 99), .int x1] (PreW G sz (dO G ad d_ad dw ++ []))) (Don G (va_A (dO G ad d_ad dw ++ []) sz) (dO G ad out dw ++ [])) 0 0 (va_A (dO G ad d_ad dw ++ []) sz) := by
  refine Met.into (by decide) (Nat.le_of_ble_eq_true rfl) ?_
  intro p e s m below meth c C hsz ls hl hw
  have hl : lv_has ls 3 [(0, .ref (ad 99)), (1, .int x1)] := hl
  clear hsz
  generalize va_A (dO G ad d_ad dw ++ []) sz = A at hw ⊢
  unfold f_X9_does at hf
  refine r_aload0 C hl 0 rfl dX9_does_0 ?_
  refine r_get C hw _ (gx_h dO_o) 13 fl_X9_17 rfl dX9_does_1 ?_
  refine r_iload0 C hl 1 rfl dX9_does_4 ?_
  obtain ⟨v1_, e1, hf⟩ := bx hf
  refine r_iald C hw _ (gx_h dO_g13) e1 dX9_does_5 ?_
  refine r_istore0 C hl [(2, .int v1_), (0, .ref (ad 99)), (1, .int x1)] (by decide) rfl dX9_does_6 (fun ls hl => ?_)
  refine r_aload0 C hl 1 rfl dX9_does_7 ?_
  refine r_get C hw _ (gx_h dO_o) 12 fl_X9_13 rfl dX9_does_8 ?_
  refine r_iload0 C hl 2 rfl dX9_does_11 ?_
  obtain ⟨v2_, e2, hf⟩ := bx hf
  refine r_iald C hw _ (gx_h dO_g12) e2 dX9_does_12 ?_
  refine lv_if_ne (tgt := 31) C.1 C.2.1 dX9_does_13 (by decide) (fun hc => ?_) (fun hc => ?_)
  · replace hf := ifn hf hc
    refine r_aload0 C hl 1 rfl dX9_does_31 ?_
    refine r_get C hw _ (gx_h dO_o) 12 fl_X9_13 rfl dX9_does_32 ?_
    refine r_iload0 C hl 2 rfl dX9_does_35 ?_
    obtain ⟨v3_, e3, hf⟩ := bx hf
    refine r_iald C hw _ (gx_h dO_g12) e3 dX9_does_36 ?_
    refine lv_iconst (v := 1) C.1 C.2.1 dX9_does_37 (by decide) ?_
    refine lv_icmp_ne (tgt := 49) C.1 C.2.1 dX9_does_38 (by decide) (fun hc => ?_) (fun hc => ?_)
    · replace hf := ifn hf hc
      refine r_aload0 C hl 1 rfl dX9_does_49 ?_
      refine r_iload0 C hl 0 rfl dX9_does_50 ?_
      obtain ⟨u4, e4, hf⟩ := bx hf
      refine r_callVv (ws' := (dO G ad u4 dw ++ [])) (As := [.int v1_]) (rest := []) C hw hl.1 kX9_dropsOne ml_X9_368 (c_X9_dropsOne l G ad _ d_ad dw v1_ u4 e4) (CutX.take dO_f CutX.none) _ (gx_h dO_o) rfl ⟨rfl, rfl⟩ ⟨Nat.le_of_ble_eq_true rfl, Nat.le_of_ble_eq_true rfl⟩ rfl ⟨Nat.zero_le _, Nat.zero_le _⟩ rfl (Nat.le_of_ble_eq_true rfl) dX9_does_51 (fun H locs hw => ?_)
      exact fin_v C hw (Option.some.inj hf) (fun o => (dO G ad o dw ++ [])) rfl dX9_does_54
    · replace hf := ifp hf hc
      refine r_aload0 C hl 1 rfl dX9_does_41 ?_
      refine r_iload0 C hl 0 rfl dX9_does_42 ?_
      obtain ⟨u5, e5, hf⟩ := bx hf
      refine r_callVv (ws' := (dO G ad u5 dw ++ [])) (As := [.int v1_]) (rest := []) C hw hl.1 kX9_loads ml_X9_417 (c_X9_loads l G ad _ d_ad dw v1_ u5 e5) (CutX.take dO_f CutX.none) _ (gx_h dO_o) rfl ⟨rfl, rfl⟩ ⟨Nat.le_of_ble_eq_true rfl, Nat.le_of_ble_eq_true rfl⟩ rfl ⟨Nat.zero_le _, Nat.zero_le _⟩ rfl (Nat.le_of_ble_eq_true rfl) dX9_does_43 (fun H locs hw => ?_)
      refine lv_goto (tgt := 54) C.1 C.2.1 dX9_does_46 (by decide) ?_
      exact fin_v C hw (Option.some.inj hf) (fun o => (dO G ad o dw ++ [])) rfl dX9_does_54
  · replace hf := ifp hf hc
    refine r_aload0 C hl 1 rfl dX9_does_16 ?_
    refine r_iload0 C hl 0 rfl dX9_does_17 ?_
    refine r_aload0 C hl 1 rfl dX9_does_18 ?_
    refine r_get C hw _ (gx_h dO_o) 14 fl_X9_20 rfl dX9_does_19 ?_
    refine r_iload0 C hl 2 rfl dX9_does_22 ?_
    obtain ⟨v6_, e6, hf⟩ := bx hf
    refine r_iald C hw _ (gx_h dO_g14) e6 dX9_does_23 ?_
    obtain ⟨u7, e7, hf⟩ := bx hf
    refine r_callVi (ws' := (dO G ad u7.2 dw ++ [])) (As := [.int v1_, .int v6_]) (rest := []) C hw hl.1 kX9_stores ml_X9_410 (c_X9_stores l G ad _ d_ad dw v1_ v6_ u7 e7) (CutX.take dO_f CutX.none) _ (gx_h dO_o) rfl ⟨rfl, rfl⟩ ⟨Nat.le_of_ble_eq_true rfl, Nat.le_of_ble_eq_true rfl⟩ rfl ⟨Nat.zero_le _, Nat.zero_le _⟩ rfl (Nat.le_of_ble_eq_true rfl) dX9_does_24 (fun H locs hw => ?_)
    refine lv_pop C.1 C.2.1 dX9_does_27 rfl ?_
    refine lv_goto (tgt := 54) C.1 C.2.1 dX9_does_28 (by decide) ?_
    exact fin_v C hw (Option.some.inj hf) (fun o => (dO G ad o dw ++ [])) rfl dX9_does_54
set_option maxHeartbeats 4000000 in
set_option maxRecDepth 100000 in
theorem c_X9_foretells (l : Launch) (G : GG) (ad : Nat → Nat) (sz : Nat) (d_ad : Pic) (dw : Int64) (x1 : Int32) (x2 : Int32) (x3 : Int32) (out : Int32 × Pic) (hf : f_X9_foretells d_ad x1 x2 x3 = some out) : Met l yX9_foretells (.code yX9_foretells cX9_foretells 6 (some .int) :: BT) ({ frames := 7, cells := 0, slots := 0, locals := 157 }) (va_Pc [.ref (ad 99), .int x1, .int x2, .int x3] (PreW G sz (dO G ad d_ad dw ++ []))) (Ans G out.1 (va_A (dO G ad d_ad dw ++ []) sz) (dO G ad out.2 dw ++ [])) 0 0 (va_A (dO G ad d_ad dw ++ []) sz) := by
  refine Met.into (by decide) (Nat.le_of_ble_eq_true rfl) ?_
  intro p e s m below meth c C hsz ls hl hw
  have hl : lv_has ls 6 [(0, .ref (ad 99)), (1, .int x1), (2, .int x2), (3, .int x3)] := hl
  clear hsz
  generalize va_A (dO G ad d_ad dw ++ []) sz = A at hw ⊢
  have hB_29 : ∀ (k29 : Pic → Int32 → Int32 → Option (Int32 × Pic)) (hk29 : ∀ (d_ad : Pic) (v4 : Int32) (v5 : Int32), k29 d_ad v4 v5 = some out → ∀ (H : Heap) (locs : List Loc), Wd G A s H locs (dO G ad d_ad dw ++ []) → ∀ ls : Array Slot, lv_has ls 6 [(0, .ref (ad 99)), (3, .int x3), (4, .int v4), (5, .int v5)] → W p l e ({ frames := 7, cells := 0, slots := 0, locals := 157 }) s m [.ref (ad 99), .int x1, .int x2, .int x3].toArray below meth c H locs 0 0 (MQ below (Ans G out.1 A (dO G ad out.2 dw ++ [])) [.ref (ad 99), .int x1, .int x2, .int x3].toArray s 0 0 A) (F0 m 29 ls [])), ∀ (d_ad : Pic) (v4 : Int32) (v5 : Int32), b_X9_foretells_29 x1 x2 x3 k29 d_ad v4 v5 = some out → ∀ (H : Heap) (locs : List Loc), Wd G A s H locs (dO G ad d_ad dw ++ []) → ∀ ls : Array Slot, lv_has ls 6 [(0, .ref (ad 99)), (3, .int x3), (4, .int v4), (5, .int v5)] → W p l e ({ frames := 7, cells := 0, slots := 0, locals := 157 }) s m [.ref (ad 99), .int x1, .int x2, .int x3].toArray below meth c H locs 0 0 (MQ below (Ans G out.1 A (dO G ad out.2 dw ++ [])) [.ref (ad 99), .int x1, .int x2, .int x3].toArray s 0 0 A) (F0 m 29 ls []) := by
    intro k29 hk29 d_ad v4 v5 hf H locs hw ls hl
    unfold b_X9_foretells_29 at hf
    refine r_iload C hl 3 rfl dX9_foretells_29 ?_
    refine r_aload0 C hl 0 rfl dX9_foretells_31 ?_
    refine r_get C hw _ (gx_h dO_o) 6 fl_X9_233 rfl dX9_foretells_32 ?_
    refine lv_icmp_ge (tgt := 50) C.1 C.2.1 dX9_foretells_35 (by decide) (fun hc => ?_) (fun hc => ?_)
    · replace hf := ifp hf hc
      refine r_aload0 C hl 0 rfl dX9_foretells_50 ?_
      refine r_get C hw _ (gx_h dO_o) 20 fl_X9_35 rfl dX9_foretells_51 ?_
      refine lv_iconst (v := 1) C.1 C.2.1 dX9_foretells_54 (by decide) ?_
      refine r_iload0 C hl 1 rfl dX9_foretells_55 ?_
      refine lv_iadd C.1 C.2.1 dX9_foretells_56 ?_
      obtain ⟨v5_, e5, hf⟩ := bx hf
      refine r_iald C hw _ (gx_h dO_g20) e5 dX9_foretells_57 ?_
      refine r_istore C hl [(5, .int v5_), (0, .ref (ad 99)), (3, .int x3), (4, .int v4)] (by decide) rfl dX9_foretells_58 (fun ls hl => ?_)
      refine r_aload0 C hl 1 rfl dX9_foretells_60 ?_
      refine r_iload C hl 3 rfl dX9_foretells_61 ?_
      obtain ⟨d_ad6, e6, hf⟩ := bx hf
      refine r_put C hw _ (gx_h dO_o) 3 fp_X9_229 rfl rfl (Nat.le_of_ble_eq_true rfl) (dO G ad d_ad6 dw ++ []) (sx_h dO_o (dO_p3 e6)) dX9_foretells_63 (fun H locs hw => ?_)
      refine r_aload0 C hl 1 rfl dX9_foretells_66 ?_
      obtain ⟨u7, e7, hf⟩ := bx hf
      refine r_callVv (ws' := (dO G ad u7 dw ++ [])) (As := []) (rest := []) C hw hl.1 kX9_bringsBack ml_X9_401 (c_X9_bringsBack l G ad _ d_ad6 dw u7 e7) (CutX.take dO_f CutX.none) _ (gx_h dO_o) rfl ⟨rfl, rfl⟩ ⟨Nat.le_of_ble_eq_true rfl, Nat.le_of_ble_eq_true rfl⟩ rfl ⟨Nat.zero_le _, Nat.zero_le _⟩ rfl (Nat.le_of_ble_eq_true rfl) dX9_foretells_67 (fun H locs hw => ?_)
      refine r_iload C hl 0 rfl dX9_foretells_70 ?_
      exact fin_i C hw (Option.some.inj hf) (fun o => o.1) (fun o => (dO G ad o.2 dw ++ [])) rfl rfl dX9_foretells_72
    · replace hf := ifn hf hc
      refine r_aload0 C hl 0 rfl dX9_foretells_38 ?_
      refine r_iload C hl 3 rfl dX9_foretells_39 ?_
      obtain ⟨u8, e8, hf⟩ := bx hf
      refine r_callVv (ws' := (dO G ad u8 dw ++ [])) (As := [.int v5]) (rest := []) C hw hl.1 kX9_does ml_X9_420 (c_X9_does l G ad _ d_ad dw v5 u8 e8) (CutX.take dO_f CutX.none) _ (gx_h dO_o) rfl ⟨rfl, rfl⟩ ⟨Nat.le_of_ble_eq_true rfl, Nat.le_of_ble_eq_true rfl⟩ rfl ⟨Nat.zero_le _, Nat.zero_le _⟩ rfl (Nat.le_of_ble_eq_true rfl) dX9_foretells_41 (fun H locs hw => ?_)
      refine r_iinc C hl 3 (v5 + 1) [(5, .int (v5 + 1)), (0, .ref (ad 99)), (3, .int x3), (4, .int v4)] rfl (iinc_e (by decide)) (by decide) rfl dX9_foretells_44 (fun ls hl => ?_)
      refine lv_goto (tgt := 29) C.1 C.2.1 dX9_foretells_47 (by decide) ?_
      exact hk29 u8 v4 (v5 + 1) hf _ _ hw _ (lv_sub hl [1, 2, 3, 0] rfl)
  have hL_29 : ∀ n : Nat, ∀ (d_ad : Pic) (v4 : Int32) (v5 : Int32), L_X9_foretells_29 x1 x2 x3  n d_ad v4 v5 = some out → ∀ (H : Heap) (locs : List Loc), Wd G A s H locs (dO G ad d_ad dw ++ []) → ∀ ls : Array Slot, lv_has ls 6 [(0, .ref (ad 99)), (3, .int x3), (4, .int v4), (5, .int v5)] → W p l e ({ frames := 7, cells := 0, slots := 0, locals := 157 }) s m [.ref (ad 99), .int x1, .int x2, .int x3].toArray below meth c H locs 0 0 (MQ below (Ans G out.1 A (dO G ad out.2 dw ++ [])) [.ref (ad 99), .int x1, .int x2, .int x3].toArray s 0 0 A) (F0 m 29 ls []) := by
    intro  n
    induction n with
    | zero => intro d_ad v4 v5 hf; cases hf
    | succ n ih => exact hB_29 _ ih
  unfold f_X9_foretells at hf
  refine r_aload0 C hl 0 rfl dX9_foretells_0 ?_
  refine r_get C hw _ (gx_h dO_o) 3 fl_X9_229 rfl dX9_foretells_1 ?_
  refine r_istore C hl [(4, .int (gS d_ad 3)), (0, .ref (ad 99)), (1, .int x1), (2, .int x2), (3, .int x3)] (by decide) rfl dX9_foretells_4 (fun ls hl => ?_)
  refine r_aload0 C hl 1 rfl dX9_foretells_6 ?_
  obtain ⟨u1, e1, hf⟩ := bx hf
  refine r_callVv (ws' := (dO G ad u1 dw ++ [])) (As := []) (rest := []) C hw hl.1 kX9_keepsAside ml_X9_395 (c_X9_keepsAside l G ad _ d_ad dw u1 e1) (CutX.take dO_f CutX.none) _ (gx_h dO_o) rfl ⟨rfl, rfl⟩ ⟨Nat.le_of_ble_eq_true rfl, Nat.le_of_ble_eq_true rfl⟩ rfl ⟨Nat.zero_le _, Nat.zero_le _⟩ rfl (Nat.le_of_ble_eq_true rfl) dX9_foretells_7 (fun H locs hw => ?_)
  refine r_aload0 C hl 1 rfl dX9_foretells_10 ?_
  obtain ⟨u2, e2, hf⟩ := bx hf
  refine r_callVv (ws' := (dO G ad u2 dw ++ [])) (As := []) (rest := []) C hw hl.1 kX9_clears ml_X9_236 (c_X9_clears l G ad _ u1 dw u2 e2) (CutX.take dO_f CutX.none) _ (gx_h dO_o) rfl ⟨rfl, rfl⟩ ⟨Nat.le_of_ble_eq_true rfl, Nat.le_of_ble_eq_true rfl⟩ rfl ⟨Nat.zero_le _, Nat.zero_le _⟩ rfl (Nat.le_of_ble_eq_true rfl) dX9_foretells_11 (fun H locs hw => ?_)
  refine r_aload0 C hl 1 rfl dX9_foretells_14 ?_
  refine r_get C hw _ (gx_h dO_o) 20 fl_X9_35 rfl dX9_foretells_15 ?_
  refine lv_iconst (v := 0) C.1 C.2.1 dX9_foretells_18 (by decide) ?_
  refine r_iload0 C hl 2 rfl dX9_foretells_19 ?_
  obtain ⟨d_ad3, e3, hf⟩ := bx hf
  refine r_iast C hw _ (gx_h dO_g20) e3 (dO G ad d_ad3 dw ++ []) (fun h => (sx_h dO_g20 (dO_s20 h))) dX9_foretells_20 (fun H locs hw => ?_)
  refine r_aload0 C hl 1 rfl dX9_foretells_21 ?_
  refine r_iload0 C hl 3 rfl dX9_foretells_22 ?_
  obtain ⟨d_ad4, e4, hf⟩ := bx hf
  refine r_put C hw _ (gx_h dO_o) 3 fp_X9_229 rfl rfl (Nat.le_of_ble_eq_true rfl) (dO G ad d_ad4 dw ++ []) (sx_h dO_o (dO_p3 e4)) dX9_foretells_23 (fun H locs hw => ?_)
  refine lv_iconst (v := 0) C.1 C.2.1 dX9_foretells_26 (by decide) ?_
  refine r_istore C hl [(5, .int 0), (4, .int (gS d_ad 3)), (0, .ref (ad 99)), (1, .int x1), (2, .int x2), (3, .int x3)] (by decide) rfl dX9_foretells_27 (fun ls hl => ?_)
  exact hL_29  FU d_ad4 (gS d_ad 3) 0 hf _ _ hw _ (lv_sub hl [2, 5, 1, 0] rfl)
set_option maxHeartbeats 4000000 in
set_option maxRecDepth 100000 in
theorem c_X9_foretold (l : Launch) (G : GG) (ad : Nat → Nat) (sz : Nat) (d_ad : Pic) (dw : Int64) (x1 : Int32) (x2 : Int32) (x3 : Int32) (out : Int32 × Pic) (hf : f_X9_foretold d_ad x1 x2 x3 = some out) : Met l yX9_foretold (.code yX9_foretold cX9_foretold 4 (some .int) :: BT) ({ frames := 8, cells := 0, slots := 0, locals := 182 }) (va_Pc [.ref (ad 99), .int x1, .int x2, .int x3] (PreW G sz (dO G ad d_ad dw ++ []))) (Ans G out.1 (va_A (dO G ad d_ad dw ++ []) sz) (dO G ad out.2 dw ++ [])) 0 0 (va_A (dO G ad d_ad dw ++ []) sz) := by
  refine Met.into (by decide) (Nat.le_of_ble_eq_true rfl) ?_
  intro p e s m below meth c C hsz ls hl hw
  have hl : lv_has ls 4 [(0, .ref (ad 99)), (1, .int x1), (2, .int x2), (3, .int x3)] := hl
  clear hsz
  generalize va_A (dO G ad d_ad dw ++ []) sz = A at hw ⊢
  have hB_21 : ∀ (d_ad : Pic), b_X9_foretold_21 x1 x2 x3  d_ad = some out → ∀ (H : Heap) (locs : List Loc), Wd G A s H locs (dO G ad d_ad dw ++ []) → ∀ ls : Array Slot, lv_has ls 4 [(0, .ref (ad 99))] → W p l e ({ frames := 8, cells := 0, slots := 0, locals := 182 }) s m [.ref (ad 99), .int x1, .int x2, .int x3].toArray below meth c H locs 0 0 (MQ below (Ans G out.1 A (dO G ad out.2 dw ++ [])) [.ref (ad 99), .int x1, .int x2, .int x3].toArray s 0 0 A) (F0 m 21 ls []) := by
    intro d_ad hf H locs hw ls hl
    unfold b_X9_foretold_21 at hf
    refine r_aload0 C hl 0 rfl dX9_foretold_21 ?_
    refine lv_iconst (v := 1) C.1 C.2.1 dX9_foretold_22 (by decide) ?_
    obtain ⟨u2, e2, hf⟩ := bx hf
    refine r_callVi (ws' := (dO G ad u2.2 dw ++ [])) (As := [.int 1]) (rest := []) C hw hl.1 kX9_refused ml_X9_210 (c_X9_refused l G ad _ d_ad dw 1 u2 e2) (CutX.take dO_f CutX.none) _ (gx_h dO_o) rfl ⟨rfl, rfl⟩ ⟨Nat.le_of_ble_eq_true rfl, Nat.le_of_ble_eq_true rfl⟩ rfl ⟨Nat.zero_le _, Nat.zero_le _⟩ rfl (Nat.le_of_ble_eq_true rfl) dX9_foretold_23 (fun H locs hw => ?_)
    exact fin_i C hw (Option.some.inj hf) (fun o => o.1) (fun o => (dO G ad o.2 dw ++ [])) rfl rfl dX9_foretold_26
  have hB_46 : ∀ (d_ad : Pic), b_X9_foretold_46 x1 x2 x3  d_ad = some out → ∀ (H : Heap) (locs : List Loc), Wd G A s H locs (dO G ad d_ad dw ++ []) → ∀ ls : Array Slot, lv_has ls 4 [(0, .ref (ad 99))] → W p l e ({ frames := 8, cells := 0, slots := 0, locals := 182 }) s m [.ref (ad 99), .int x1, .int x2, .int x3].toArray below meth c H locs 0 0 (MQ below (Ans G out.1 A (dO G ad out.2 dw ++ [])) [.ref (ad 99), .int x1, .int x2, .int x3].toArray s 0 0 A) (F0 m 46 ls []) := by
    intro d_ad hf H locs hw ls hl
    unfold b_X9_foretold_46 at hf
    refine r_aload0 C hl 0 rfl dX9_foretold_46 ?_
    refine lv_iconst (v := 2) C.1 C.2.1 dX9_foretold_47 (by decide) ?_
    obtain ⟨u5, e5, hf⟩ := bx hf
    refine r_callVi (ws' := (dO G ad u5.2 dw ++ [])) (As := [.int 2]) (rest := []) C hw hl.1 kX9_refused ml_X9_210 (c_X9_refused l G ad _ d_ad dw 2 u5 e5) (CutX.take dO_f CutX.none) _ (gx_h dO_o) rfl ⟨rfl, rfl⟩ ⟨Nat.le_of_ble_eq_true rfl, Nat.le_of_ble_eq_true rfl⟩ rfl ⟨Nat.zero_le _, Nat.zero_le _⟩ rfl (Nat.le_of_ble_eq_true rfl) dX9_foretold_48 (fun H locs hw => ?_)
    exact fin_i C hw (Option.some.inj hf) (fun o => o.1) (fun o => (dO G ad o.2 dw ++ [])) rfl rfl dX9_foretold_51
  unfold f_X9_foretold at hf
  refine r_aload0 C hl 0 rfl dX9_foretold_0 ?_
  refine lv_iconst (v := 0) C.1 C.2.1 dX9_foretold_1 (by decide) ?_
  obtain ⟨d_ad1, e1, hf⟩ := bx hf
  refine r_put C hw _ (gx_h dO_o) 0 fp_X9_75 rfl rfl (Nat.le_of_ble_eq_true rfl) (dO G ad d_ad1 dw ++ []) (sx_h dO_o (dO_p0 e1)) dX9_foretold_2 (fun H locs hw => ?_)
  refine r_aload0 C hl 0 rfl dX9_foretold_5 ?_
  refine r_get C hw _ (gx_h dO_o) 19 fl_X9_225 rfl dX9_foretold_6 ?_
  refine lv_if_eq (tgt := 21) C.1 C.2.1 dX9_foretold_9 (by decide) (fun hc => ?_) (fun hc => ?_)
  · replace hf := ifp hf hc
    exact hB_21  d_ad1 hf _ _ hw _ (lv_sub hl [0] rfl)
  · replace hf := ifn hf hc
    refine r_iload0 C hl 3 rfl dX9_foretold_12 ?_
    refine lv_iconst (v := 0) C.1 C.2.1 dX9_foretold_13 (by decide) ?_
    refine lv_iconst (v := 2) C.1 C.2.1 dX9_foretold_14 (by decide) ?_
    obtain ⟨u3, e3, hf⟩ := bx hf
    refine r_callSi (ws' := (dO G ad d_ad1 dw ++ [])) (As := [.int x3, .int 0, .int 2]) (rest := []) C hw hl.1 kX9_in ml_X9_100 (c_X9_in l G _ x3 0 2 u3 e3) CutX.none ⟨rfl, rfl⟩ ⟨Nat.le_of_ble_eq_true rfl, Nat.le_of_ble_eq_true rfl⟩ rfl ⟨Nat.zero_le _, Nat.zero_le _⟩ rfl (Nat.le_of_ble_eq_true rfl) dX9_foretold_15 (fun H locs hw => ?_)
    refine lv_if_ne (tgt := 27) C.1 C.2.1 dX9_foretold_18 (by decide) (fun hc => ?_) (fun hc => ?_)
    · replace hf := ifn hf hc
      refine r_iload0 C hl 1 rfl dX9_foretold_27 ?_
      refine lv_iconst (v := 1) C.1 C.2.1 dX9_foretold_28 (by decide) ?_
      refine lv_bipush (v := 24) C.1 C.2.1 dX9_foretold_29 (by decide) ?_
      obtain ⟨u4, e4, hf⟩ := bx hf
      refine r_callSi (ws' := (dO G ad d_ad1 dw ++ [])) (As := [.int x1, .int 1, .int 24]) (rest := []) C hw hl.1 kX9_in ml_X9_100 (c_X9_in l G _ x1 1 24 u4 e4) CutX.none ⟨rfl, rfl⟩ ⟨Nat.le_of_ble_eq_true rfl, Nat.le_of_ble_eq_true rfl⟩ rfl ⟨Nat.zero_le _, Nat.zero_le _⟩ rfl (Nat.le_of_ble_eq_true rfl) dX9_foretold_31 (fun H locs hw => ?_)
      refine lv_if_eq (tgt := 46) C.1 C.2.1 dX9_foretold_34 (by decide) (fun hc => ?_) (fun hc => ?_)
      · replace hf := ifp hf hc
        exact hB_46  d_ad1 hf _ _ hw _ (lv_sub hl [0] rfl)
      · replace hf := ifn hf hc
        refine r_iload0 C hl 2 rfl dX9_foretold_37 ?_
        refine lv_iconst (v := 1) C.1 C.2.1 dX9_foretold_38 (by decide) ?_
        refine lv_iconst (v := 4) C.1 C.2.1 dX9_foretold_39 (by decide) ?_
        obtain ⟨u6, e6, hf⟩ := bx hf
        refine r_callSi (ws' := (dO G ad d_ad1 dw ++ [])) (As := [.int x2, .int 1, .int 4]) (rest := []) C hw hl.1 kX9_in ml_X9_100 (c_X9_in l G _ x2 1 4 u6 e6) CutX.none ⟨rfl, rfl⟩ ⟨Nat.le_of_ble_eq_true rfl, Nat.le_of_ble_eq_true rfl⟩ rfl ⟨Nat.zero_le _, Nat.zero_le _⟩ rfl (Nat.le_of_ble_eq_true rfl) dX9_foretold_40 (fun H locs hw => ?_)
        refine lv_if_ne (tgt := 52) C.1 C.2.1 dX9_foretold_43 (by decide) (fun hc => ?_) (fun hc => ?_)
        · replace hf := ifn hf hc
          refine r_aload0 C hl 0 rfl dX9_foretold_52 ?_
          refine r_aload0 C hl 0 rfl dX9_foretold_53 ?_
          refine r_iload0 C hl 1 rfl dX9_foretold_54 ?_
          refine r_iload0 C hl 2 rfl dX9_foretold_55 ?_
          refine r_iload0 C hl 3 rfl dX9_foretold_56 ?_
          obtain ⟨u7, e7, hf⟩ := bx hf
          refine r_callVi (ws' := (dO G ad u7.2 dw ++ [])) (As := [.int x1, .int x2, .int x3]) (rest := [.ref (ad 99)]) C hw hl.1 kX9_foretells ml_X9_423 (c_X9_foretells l G ad _ d_ad1 dw x1 x2 x3 u7 e7) (CutX.take dO_f CutX.none) _ (gx_h dO_o) rfl ⟨rfl, rfl⟩ ⟨Nat.le_of_ble_eq_true rfl, Nat.le_of_ble_eq_true rfl⟩ rfl ⟨Nat.zero_le _, Nat.zero_le _⟩ rfl (Nat.le_of_ble_eq_true rfl) dX9_foretold_57 (fun H locs hw => ?_)
          obtain ⟨u8, e8, hf⟩ := bx hf
          refine r_callVi (ws' := (dO G ad u8.2 dw ++ [])) (As := [.int u7.1]) (rest := []) C hw hl.1 kX9_good ml_X9_222 (c_X9_good l G ad _ u7.2 dw u7.1 u8 e8) (CutX.take dO_f CutX.none) _ (gx_h dO_o) rfl ⟨rfl, rfl⟩ ⟨Nat.le_of_ble_eq_true rfl, Nat.le_of_ble_eq_true rfl⟩ rfl ⟨Nat.zero_le _, Nat.zero_le _⟩ rfl (Nat.le_of_ble_eq_true rfl) dX9_foretold_60 (fun H locs hw => ?_)
          exact fin_i C hw (Option.some.inj hf) (fun o => o.1) (fun o => (dO G ad o.2 dw ++ [])) rfl rfl dX9_foretold_63
        · replace hf := ifp hf hc
          exact hB_46  d_ad1 hf _ _ hw _ (lv_sub hl [0] rfl)
    · replace hf := ifp hf hc
      exact hB_21  d_ad1 hf _ _ hw _ (lv_sub hl [0] rfl)
set_option maxHeartbeats 4000000 in
set_option maxRecDepth 100000 in
theorem c_X9_enough (l : Launch) (G : GG) (ad : Nat → Nat) (sz : Nat) (d_ad : Pic) (dw : Int64)  (out : Int32 × Pic) (hf : f_X9_enough d_ad = some out) : Met l yX9_enough (.code yX9_enough cX9_enough 2 (some .int) :: BT) ({ frames := 8, cells := 0, slots := 0, locals := 182 }) (va_Pc [.ref (ad 99)] (PreW G sz (dO G ad d_ad dw ++ []))) (Ans G out.1 (va_A (dO G ad d_ad dw ++ []) sz) (dO G ad out.2 dw ++ [])) 0 0 (va_A (dO G ad d_ad dw ++ []) sz) := by
  refine Met.into (by decide) (Nat.le_of_ble_eq_true rfl) ?_
  intro p e s m below meth c C hsz ls hl hw
  have hl : lv_has ls 2 [(0, .ref (ad 99))] := hl
  clear hsz
  generalize va_A (dO G ad d_ad dw ++ []) sz = A at hw ⊢
  have hB_20 : ∀ (k20 : Pic → Int32 → Option (Int32 × Pic)) (hk20 : ∀ (d_ad : Pic) (v1 : Int32), k20 d_ad v1 = some out → ∀ (H : Heap) (locs : List Loc), Wd G A s H locs (dO G ad d_ad dw ++ []) → ∀ ls : Array Slot, lv_has ls 2 [(0, .ref (ad 99)), (1, .int v1)] → W p l e ({ frames := 8, cells := 0, slots := 0, locals := 182 }) s m [.ref (ad 99)].toArray below meth c H locs 0 0 (MQ below (Ans G out.1 A (dO G ad out.2 dw ++ [])) [.ref (ad 99)].toArray s 0 0 A) (F0 m 20 ls [])), ∀ (d_ad : Pic) (v1 : Int32), b_X9_enough_20  k20 d_ad v1 = some out → ∀ (H : Heap) (locs : List Loc), Wd G A s H locs (dO G ad d_ad dw ++ []) → ∀ ls : Array Slot, lv_has ls 2 [(0, .ref (ad 99)), (1, .int v1)] → W p l e ({ frames := 8, cells := 0, slots := 0, locals := 182 }) s m [.ref (ad 99)].toArray below meth c H locs 0 0 (MQ below (Ans G out.1 A (dO G ad out.2 dw ++ [])) [.ref (ad 99)].toArray s 0 0 A) (F0 m 20 ls []) := by
    intro k20 hk20 d_ad v1 hf H locs hw ls hl
    unfold b_X9_enough_20 at hf
    refine r_iload0 C hl 1 rfl dX9_enough_20 ?_
    refine lv_bipush (v := 24) C.1 C.2.1 dX9_enough_21 (by decide) ?_
    refine lv_icmp_gt (tgt := 51) C.1 C.2.1 dX9_enough_23 (by decide) (fun hc => ?_) (fun hc => ?_)
    · replace hf := ifp hf hc
      refine r_aload0 C hl 0 rfl dX9_enough_51 ?_
      refine lv_bipush (v := (-2)) C.1 C.2.1 dX9_enough_52 (by decide) ?_
      obtain ⟨u2, e2, hf⟩ := bx hf
      refine r_callVi (ws' := (dO G ad u2.2 dw ++ [])) (As := [.int (-2)]) (rest := []) C hw hl.1 kX9_good ml_X9_222 (c_X9_good l G ad _ d_ad dw (-2) u2 e2) (CutX.take dO_f CutX.none) _ (gx_h dO_o) rfl ⟨rfl, rfl⟩ ⟨Nat.le_of_ble_eq_true rfl, Nat.le_of_ble_eq_true rfl⟩ rfl ⟨Nat.zero_le _, Nat.zero_le _⟩ rfl (Nat.le_of_ble_eq_true rfl) dX9_enough_54 (fun H locs hw => ?_)
      exact fin_i C hw (Option.some.inj hf) (fun o => o.1) (fun o => (dO G ad o.2 dw ++ [])) rfl rfl dX9_enough_57
    · replace hf := ifn hf hc
      refine r_aload0 C hl 0 rfl dX9_enough_26 ?_
      refine r_iload0 C hl 1 rfl dX9_enough_27 ?_
      refine r_aload0 C hl 0 rfl dX9_enough_28 ?_
      refine r_get C hw _ (gx_h dO_o) 3 fl_X9_229 rfl dX9_enough_29 ?_
      refine lv_iconst (v := 1) C.1 C.2.1 dX9_enough_32 (by decide) ?_
      obtain ⟨u3, e3, hf⟩ := bx hf
      refine r_callVi (ws' := (dO G ad u3.2 dw ++ [])) (As := [.int v1, .int (gS d_ad 3), .int 1]) (rest := []) C hw hl.1 kX9_foretells ml_X9_423 (c_X9_foretells l G ad _ d_ad dw v1 (gS d_ad 3) 1 u3 e3) (CutX.take dO_f CutX.none) _ (gx_h dO_o) rfl ⟨rfl, rfl⟩ ⟨Nat.le_of_ble_eq_true rfl, Nat.le_of_ble_eq_true rfl⟩ rfl ⟨Nat.zero_le _, Nat.zero_le _⟩ rfl (Nat.le_of_ble_eq_true rfl) dX9_enough_33 (fun H locs hw => ?_)
      refine lv_if_ne (tgt := 45) C.1 C.2.1 dX9_enough_36 (by decide) (fun hc => ?_) (fun hc => ?_)
      · replace hf := ifn hf hc
        refine r_iinc C hl 1 (v1 + 1) [(1, .int (v1 + 1)), (0, .ref (ad 99))] rfl (iinc_e (by decide)) (by decide) rfl dX9_enough_45 (fun ls hl => ?_)
        refine lv_goto (tgt := 20) C.1 C.2.1 dX9_enough_48 (by decide) ?_
        exact hk20 u3.2 (v1 + 1) hf _ _ hw _ (lv_sub hl [1, 0] rfl)
      · replace hf := ifp hf hc
        refine r_aload0 C hl 0 rfl dX9_enough_39 ?_
        refine r_iload0 C hl 1 rfl dX9_enough_40 ?_
        obtain ⟨u4, e4, hf⟩ := bx hf
        refine r_callVi (ws' := (dO G ad u4.2 dw ++ [])) (As := [.int v1]) (rest := []) C hw hl.1 kX9_good ml_X9_222 (c_X9_good l G ad _ u3.2 dw v1 u4 e4) (CutX.take dO_f CutX.none) _ (gx_h dO_o) rfl ⟨rfl, rfl⟩ ⟨Nat.le_of_ble_eq_true rfl, Nat.le_of_ble_eq_true rfl⟩ rfl ⟨Nat.zero_le _, Nat.zero_le _⟩ rfl (Nat.le_of_ble_eq_true rfl) dX9_enough_41 (fun H locs hw => ?_)
        exact fin_i C hw (Option.some.inj hf) (fun o => o.1) (fun o => (dO G ad o.2 dw ++ [])) rfl rfl dX9_enough_44
  have hL_20 : ∀ n : Nat, ∀ (d_ad : Pic) (v1 : Int32), L_X9_enough_20   n d_ad v1 = some out → ∀ (H : Heap) (locs : List Loc), Wd G A s H locs (dO G ad d_ad dw ++ []) → ∀ ls : Array Slot, lv_has ls 2 [(0, .ref (ad 99)), (1, .int v1)] → W p l e ({ frames := 8, cells := 0, slots := 0, locals := 182 }) s m [.ref (ad 99)].toArray below meth c H locs 0 0 (MQ below (Ans G out.1 A (dO G ad out.2 dw ++ [])) [.ref (ad 99)].toArray s 0 0 A) (F0 m 20 ls []) := by
    intro  n
    induction n with
    | zero => intro d_ad v1 hf; cases hf
    | succ n ih => exact hB_20 _ ih
  unfold f_X9_enough at hf
  refine r_aload0 C hl 0 rfl dX9_enough_0 ?_
  refine lv_iconst (v := 0) C.1 C.2.1 dX9_enough_1 (by decide) ?_
  obtain ⟨d_ad1, e1, hf⟩ := bx hf
  refine r_put C hw _ (gx_h dO_o) 0 fp_X9_75 rfl rfl (Nat.le_of_ble_eq_true rfl) (dO G ad d_ad1 dw ++ []) (sx_h dO_o (dO_p0 e1)) dX9_enough_2 (fun H locs hw => ?_)
  refine r_aload0 C hl 0 rfl dX9_enough_5 ?_
  refine r_get C hw _ (gx_h dO_o) 19 fl_X9_225 rfl dX9_enough_6 ?_
  refine lv_if_ne (tgt := 18) C.1 C.2.1 dX9_enough_9 (by decide) (fun hc => ?_) (fun hc => ?_)
  · replace hf := ifn hf hc
    refine lv_iconst (v := 1) C.1 C.2.1 dX9_enough_18 (by decide) ?_
    refine r_istore0 C hl [(1, .int 1), (0, .ref (ad 99))] (by decide) rfl dX9_enough_19 (fun ls hl => ?_)
    exact hL_20  FU d_ad1 1 hf _ _ hw _ (lv_sub hl [1, 0] rfl)
  · replace hf := ifp hf hc
    refine r_aload0 C hl 0 rfl dX9_enough_12 ?_
    refine lv_iconst (v := 1) C.1 C.2.1 dX9_enough_13 (by decide) ?_
    obtain ⟨u5, e5, hf⟩ := bx hf
    refine r_callVi (ws' := (dO G ad u5.2 dw ++ [])) (As := [.int 1]) (rest := []) C hw hl.1 kX9_refused ml_X9_210 (c_X9_refused l G ad _ d_ad1 dw 1 u5 e5) (CutX.take dO_f CutX.none) _ (gx_h dO_o) rfl ⟨rfl, rfl⟩ ⟨Nat.le_of_ble_eq_true rfl, Nat.le_of_ble_eq_true rfl⟩ rfl ⟨Nat.zero_le _, Nat.zero_le _⟩ rfl (Nat.le_of_ble_eq_true rfl) dX9_enough_14 (fun H locs hw => ?_)
    exact fin_i C hw (Option.some.inj hf) (fun o => o.1) (fun o => (dO G ad o.2 dw ++ [])) rfl rfl dX9_enough_17
set_option maxHeartbeats 4000000 in
set_option maxRecDepth 100000 in
theorem c_X9_op (l : Launch) (G : GG) (ad : Nat → Nat) (sz : Nat) (d_ad : Pic) (dw : Int64) (x1 : Int32) (x2 : Int32) (out : Int32 × Pic) (hf : f_X9_op d_ad x1 x2 = some out) : Met l yX9_op (.code yX9_op cX9_op 3 (some .int) :: BT) ({ frames := 1, cells := 0, slots := 0, locals := 22 }) (va_Pc [.ref (ad 99), .int x1, .int x2] (PreW G sz (dO G ad d_ad dw ++ []))) (Ans G out.1 (va_A (dO G ad d_ad dw ++ []) sz) (dO G ad out.2 dw ++ [])) 0 0 (va_A (dO G ad d_ad dw ++ []) sz) := by
  refine Met.into (by decide) (Nat.le_of_ble_eq_true rfl) ?_
  intro p e s m below meth c C hsz ls hl hw
  have hl : lv_has ls 3 [(0, .ref (ad 99)), (1, .int x1), (2, .int x2)] := hl
  clear hsz
  generalize va_A (dO G ad d_ad dw ++ []) sz = A at hw ⊢
  have hB_33 : ∀ (d_ad : Pic), b_X9_op_33 x1 x2  d_ad = some out → ∀ (H : Heap) (locs : List Loc), Wd G A s H locs (dO G ad d_ad dw ++ []) → ∀ ls : Array Slot, lv_has ls 3 [(0, .ref (ad 99))] → W p l e ({ frames := 1, cells := 0, slots := 0, locals := 22 }) s m [.ref (ad 99), .int x1, .int x2].toArray below meth c H locs 0 0 (MQ below (Ans G out.1 A (dO G ad out.2 dw ++ [])) [.ref (ad 99), .int x1, .int x2].toArray s 0 0 A) (F0 m 33 ls []) := by
    intro d_ad hf H locs hw ls hl
    unfold b_X9_op_33 at hf
    refine r_aload0 C hl 0 rfl dX9_op_33 ?_
    refine lv_iconst (v := 1) C.1 C.2.1 dX9_op_34 (by decide) ?_
    obtain ⟨u2, e2, hf⟩ := bx hf
    refine r_callVi (ws' := (dO G ad u2.2 dw ++ [])) (As := [.int 1]) (rest := []) C hw hl.1 kX9_refused ml_X9_210 (c_X9_refused l G ad _ d_ad dw 1 u2 e2) (CutX.take dO_f CutX.none) _ (gx_h dO_o) rfl ⟨rfl, rfl⟩ ⟨Nat.le_of_ble_eq_true rfl, Nat.le_of_ble_eq_true rfl⟩ rfl ⟨Nat.zero_le _, Nat.zero_le _⟩ rfl (Nat.le_of_ble_eq_true rfl) dX9_op_35 (fun H locs hw => ?_)
    exact fin_i C hw (Option.some.inj hf) (fun o => o.1) (fun o => (dO G ad o.2 dw ++ [])) rfl rfl dX9_op_38
  have hB_73 : ∀ (d_ad : Pic) (t0 : Int32), b_X9_op_73 x1 x2  d_ad t0 = some out → ∀ (H : Heap) (locs : List Loc), Wd G A s H locs (dO G ad d_ad dw ++ []) → ∀ ls : Array Slot, lv_has ls 3 [] → W p l e ({ frames := 1, cells := 0, slots := 0, locals := 22 }) s m [.ref (ad 99), .int x1, .int x2].toArray below meth c H locs 0 0 (MQ below (Ans G out.1 A (dO G ad out.2 dw ++ [])) [.ref (ad 99), .int x1, .int x2].toArray s 0 0 A) (F0 m 73 ls [.int t0, .ref (ad 99)]) := by
    intro d_ad t0 hf H locs hw ls hl
    unfold b_X9_op_73 at hf
    obtain ⟨u5, e5, hf⟩ := bx hf
    refine r_callVi (ws' := (dO G ad u5.2 dw ++ [])) (As := [.int t0]) (rest := []) C hw hl.1 kX9_good ml_X9_222 (c_X9_good l G ad _ d_ad dw t0 u5 e5) (CutX.take dO_f CutX.none) _ (gx_h dO_o) rfl ⟨rfl, rfl⟩ ⟨Nat.le_of_ble_eq_true rfl, Nat.le_of_ble_eq_true rfl⟩ rfl ⟨Nat.zero_le _, Nat.zero_le _⟩ rfl (Nat.le_of_ble_eq_true rfl) dX9_op_73 (fun H locs hw => ?_)
    exact fin_i C hw (Option.some.inj hf) (fun o => o.1) (fun o => (dO G ad o.2 dw ++ [])) rfl rfl dX9_op_76
  unfold f_X9_op at hf
  refine r_aload0 C hl 0 rfl dX9_op_0 ?_
  refine lv_iconst (v := 0) C.1 C.2.1 dX9_op_1 (by decide) ?_
  obtain ⟨d_ad1, e1, hf⟩ := bx hf
  refine r_put C hw _ (gx_h dO_o) 0 fp_X9_75 rfl rfl (Nat.le_of_ble_eq_true rfl) (dO G ad d_ad1 dw ++ []) (sx_h dO_o (dO_p0 e1)) dX9_op_2 (fun H locs hw => ?_)
  refine r_aload0 C hl 0 rfl dX9_op_5 ?_
  refine r_get C hw _ (gx_h dO_o) 19 fl_X9_225 rfl dX9_op_6 ?_
  refine lv_if_eq (tgt := 33) C.1 C.2.1 dX9_op_9 (by decide) (fun hc => ?_) (fun hc => ?_)
  · replace hf := ifp hf hc
    exact hB_33  d_ad1 hf _ _ hw _ (lv_sub hl [0] rfl)
  · replace hf := ifn hf hc
    refine r_iload0 C hl 1 rfl dX9_op_12 ?_
    refine lv_if_lt (tgt := 33) C.1 C.2.1 dX9_op_13 (by decide) (fun hc => ?_) (fun hc => ?_)
    · replace hf := ifp hf hc
      exact hB_33  d_ad1 hf _ _ hw _ (lv_sub hl [0] rfl)
    · replace hf := ifn hf hc
      refine r_iload0 C hl 1 rfl dX9_op_16 ?_
      refine r_aload0 C hl 0 rfl dX9_op_17 ?_
      refine r_get C hw _ (gx_h dO_o) 6 fl_X9_233 rfl dX9_op_18 ?_
      refine lv_icmp_ge (tgt := 33) C.1 C.2.1 dX9_op_21 (by decide) (fun hc => ?_) (fun hc => ?_)
      · replace hf := ifp hf hc
        exact hB_33  d_ad1 hf _ _ hw _ (lv_sub hl [0] rfl)
      · replace hf := ifn hf hc
        refine r_iload0 C hl 2 rfl dX9_op_24 ?_
        refine lv_iconst (v := 0) C.1 C.2.1 dX9_op_25 (by decide) ?_
        refine lv_iconst (v := 2) C.1 C.2.1 dX9_op_26 (by decide) ?_
        obtain ⟨u3, e3, hf⟩ := bx hf
        refine r_callSi (ws' := (dO G ad d_ad1 dw ++ [])) (As := [.int x2, .int 0, .int 2]) (rest := []) C hw hl.1 kX9_in ml_X9_100 (c_X9_in l G _ x2 0 2 u3 e3) CutX.none ⟨rfl, rfl⟩ ⟨Nat.le_of_ble_eq_true rfl, Nat.le_of_ble_eq_true rfl⟩ rfl ⟨Nat.zero_le _, Nat.zero_le _⟩ rfl (Nat.le_of_ble_eq_true rfl) dX9_op_27 (fun H locs hw => ?_)
        refine lv_if_ne (tgt := 39) C.1 C.2.1 dX9_op_30 (by decide) (fun hc => ?_) (fun hc => ?_)
        · replace hf := ifn hf hc
          refine r_aload0 C hl 0 rfl dX9_op_39 ?_
          refine r_iload0 C hl 2 rfl dX9_op_40 ?_
          refine lv_if_ne (tgt := 53) C.1 C.2.1 dX9_op_41 (by decide) (fun hc => ?_) (fun hc => ?_)
          · replace hf := ifn hf hc
            refine r_iload0 C hl 2 rfl dX9_op_53 ?_
            refine lv_iconst (v := 1) C.1 C.2.1 dX9_op_54 (by decide) ?_
            refine lv_icmp_ne (tgt := 67) C.1 C.2.1 dX9_op_55 (by decide) (fun hc => ?_) (fun hc => ?_)
            · replace hf := ifn hf hc
              refine r_aload0 C hl 0 rfl dX9_op_67 ?_
              refine r_get C hw _ (gx_h dO_o) 14 fl_X9_20 rfl dX9_op_68 ?_
              refine r_iload0 C hl 1 rfl dX9_op_71 ?_
              obtain ⟨v4_, e4, hf⟩ := bx hf
              refine r_iald C hw _ (gx_h dO_g14) e4 dX9_op_72 ?_
              exact hB_73  d_ad1 v4_ hf _ _ hw _ (lv_sub hl [] rfl)
            · replace hf := ifp hf hc
              refine r_aload0 C hl 0 rfl dX9_op_58 ?_
              refine r_get C hw _ (gx_h dO_o) 13 fl_X9_17 rfl dX9_op_59 ?_
              refine r_iload0 C hl 1 rfl dX9_op_62 ?_
              obtain ⟨v6_, e6, hf⟩ := bx hf
              refine r_iald C hw _ (gx_h dO_g13) e6 dX9_op_63 ?_
              refine lv_goto (tgt := 73) C.1 C.2.1 dX9_op_64 (by decide) ?_
              exact hB_73  d_ad1 v6_ hf _ _ hw _ (lv_sub hl [] rfl)
          · replace hf := ifp hf hc
            refine r_aload0 C hl 0 rfl dX9_op_44 ?_
            refine r_get C hw _ (gx_h dO_o) 12 fl_X9_13 rfl dX9_op_45 ?_
            refine r_iload0 C hl 1 rfl dX9_op_48 ?_
            obtain ⟨v7_, e7, hf⟩ := bx hf
            refine r_iald C hw _ (gx_h dO_g12) e7 dX9_op_49 ?_
            refine lv_goto (tgt := 73) C.1 C.2.1 dX9_op_50 (by decide) ?_
            exact hB_73  d_ad1 v7_ hf _ _ hw _ (lv_sub hl [] rfl)
        · replace hf := ifp hf hc
          exact hB_33  d_ad1 hf _ _ hw _ (lv_sub hl [0] rfl)
set_option maxHeartbeats 4000000 in
set_option maxRecDepth 100000 in
theorem c_X9_remembers (l : Launch) (G : GG) (ad : Nat → Nat) (sz : Nat) (d_ad : Pic) (dw : Int64)  (out : Pic) (hf : f_X9_remembers d_ad = some out) : Met l yX9_remembers (.code yX9_remembers cX9_remembers 2 none :: BT) ({ frames := 0, cells := 0, slots := 0, locals := 0 }) (va_Pc [.ref (ad 99)] (PreW G sz (dO G ad d_ad dw ++ []))) (Don G (va_A (dO G ad d_ad dw ++ []) sz) (dO G ad out dw ++ [])) 0 0 (va_A (dO G ad d_ad dw ++ []) sz) := by
  refine Met.into (by decide) (Nat.le_of_ble_eq_true rfl) ?_
  intro p e s m below meth c C hsz ls hl hw
  have hl : lv_has ls 2 [(0, .ref (ad 99))] := hl
  clear hsz
  generalize va_A (dO G ad d_ad dw ++ []) sz = A at hw ⊢
  have hB_52 : ∀ (k52 : Pic → Int32 → Option (Pic)) (hk52 : ∀ (d_ad : Pic) (v1 : Int32), k52 d_ad v1 = some out → ∀ (H : Heap) (locs : List Loc), Wd G A s H locs (dO G ad d_ad dw ++ []) → ∀ ls : Array Slot, lv_has ls 2 [(0, .ref (ad 99)), (1, .int v1)] → W p l e ({ frames := 0, cells := 0, slots := 0, locals := 0 }) s m [.ref (ad 99)].toArray below meth c H locs 0 0 (MQ below (Don G A (dO G ad out dw ++ [])) [.ref (ad 99)].toArray s 0 0 A) (F0 m 52 ls [])), ∀ (d_ad : Pic) (v1 : Int32), b_X9_remembers_52  k52 d_ad v1 = some out → ∀ (H : Heap) (locs : List Loc), Wd G A s H locs (dO G ad d_ad dw ++ []) → ∀ ls : Array Slot, lv_has ls 2 [(0, .ref (ad 99)), (1, .int v1)] → W p l e ({ frames := 0, cells := 0, slots := 0, locals := 0 }) s m [.ref (ad 99)].toArray below meth c H locs 0 0 (MQ below (Don G A (dO G ad out dw ++ [])) [.ref (ad 99)].toArray s 0 0 A) (F0 m 52 ls []) := by
    intro k52 hk52 d_ad v1 hf H locs hw ls hl
    unfold b_X9_remembers_52 at hf
    refine r_iload0 C hl 1 rfl dX9_remembers_52 ?_
    refine lv_sipush (v := 1234) C.1 C.2.1 dX9_remembers_53 (by decide) ?_
    refine lv_icmp_ge (tgt := 86) C.1 C.2.1 dX9_remembers_56 (by decide) (fun hc => ?_) (fun hc => ?_)
    · replace hf := ifp hf hc
      refine r_aload0 C hl 0 rfl dX9_remembers_86 ?_
      refine lv_dup C.1 C.2.1 dX9_remembers_87 rfl ?_
      refine r_get C hw _ (gx_h dO_o) 23 fl_X9_239 rfl dX9_remembers_88 ?_
      refine lv_iconst (v := 1) C.1 C.2.1 dX9_remembers_91 (by decide) ?_
      refine lv_iadd C.1 C.2.1 dX9_remembers_92 ?_
      obtain ⟨d_ad1, e1, hf⟩ := bx hf
      refine r_put C hw _ (gx_h dO_o) 23 fp_X9_239 rfl rfl (Nat.le_of_ble_eq_true rfl) (dO G ad d_ad1 dw ++ []) (sx_h dO_o (dO_p23 e1)) dX9_remembers_93 (fun H locs hw => ?_)
      exact fin_v C hw (Option.some.inj hf) (fun o => (dO G ad o dw ++ [])) rfl dX9_remembers_96
    · replace hf := ifn hf hc
      refine r_aload0 C hl 0 rfl dX9_remembers_59 ?_
      refine r_get C hw _ (gx_h dO_o) 22 fl_X9_41 rfl dX9_remembers_60 ?_
      refine lv_sipush (v := 1234) C.1 C.2.1 dX9_remembers_63 (by decide) ?_
      refine r_aload0 C hl 0 rfl dX9_remembers_66 ?_
      refine r_get C hw _ (gx_h dO_o) 23 fl_X9_239 rfl dX9_remembers_67 ?_
      refine lv_imul C.1 C.2.1 dX9_remembers_70 ?_
      refine r_iload0 C hl 1 rfl dX9_remembers_71 ?_
      refine lv_iadd C.1 C.2.1 dX9_remembers_72 ?_
      refine r_aload0 C hl 0 rfl dX9_remembers_73 ?_
      refine r_get C hw _ (gx_h dO_o) 20 fl_X9_35 rfl dX9_remembers_74 ?_
      refine r_iload0 C hl 1 rfl dX9_remembers_77 ?_
      obtain ⟨v2_, e2, hf⟩ := bx hf
      refine r_iald C hw _ (gx_h dO_g20) e2 dX9_remembers_78 ?_
      obtain ⟨d_ad3, e3, hf⟩ := bx hf
      refine r_iast C hw _ (gx_h dO_g22) e3 (dO G ad d_ad3 dw ++ []) (fun h => (sx_h dO_g22 (dO_s22 h))) dX9_remembers_79 (fun H locs hw => ?_)
      refine r_iinc C hl 1 (v1 + 1) [(1, .int (v1 + 1)), (0, .ref (ad 99))] rfl (iinc_e (by decide)) (by decide) rfl dX9_remembers_80 (fun ls hl => ?_)
      refine lv_goto (tgt := 52) C.1 C.2.1 dX9_remembers_83 (by decide) ?_
      exact hk52 d_ad3 (v1 + 1) hf _ _ hw _ (lv_sub hl [1, 0] rfl)
  have hL_52 : ∀ n : Nat, ∀ (d_ad : Pic) (v1 : Int32), L_X9_remembers_52   n d_ad v1 = some out → ∀ (H : Heap) (locs : List Loc), Wd G A s H locs (dO G ad d_ad dw ++ []) → ∀ ls : Array Slot, lv_has ls 2 [(0, .ref (ad 99)), (1, .int v1)] → W p l e ({ frames := 0, cells := 0, slots := 0, locals := 0 }) s m [.ref (ad 99)].toArray below meth c H locs 0 0 (MQ below (Don G A (dO G ad out dw ++ [])) [.ref (ad 99)].toArray s 0 0 A) (F0 m 52 ls []) := by
    intro  n
    induction n with
    | zero => intro d_ad v1 hf; cases hf
    | succ n ih => exact hB_52 _ ih
  have hB_11 : ∀ (k11 : Pic → Int32 → Option (Pic)) (hk11 : ∀ (d_ad : Pic) (v1 : Int32), k11 d_ad v1 = some out → ∀ (H : Heap) (locs : List Loc), Wd G A s H locs (dO G ad d_ad dw ++ []) → ∀ ls : Array Slot, lv_has ls 2 [(0, .ref (ad 99)), (1, .int v1)] → W p l e ({ frames := 0, cells := 0, slots := 0, locals := 0 }) s m [.ref (ad 99)].toArray below meth c H locs 0 0 (MQ below (Don G A (dO G ad out dw ++ [])) [.ref (ad 99)].toArray s 0 0 A) (F0 m 11 ls [])), ∀ (d_ad : Pic) (v1 : Int32), b_X9_remembers_11  k11 d_ad v1 = some out → ∀ (H : Heap) (locs : List Loc), Wd G A s H locs (dO G ad d_ad dw ++ []) → ∀ ls : Array Slot, lv_has ls 2 [(0, .ref (ad 99)), (1, .int v1)] → W p l e ({ frames := 0, cells := 0, slots := 0, locals := 0 }) s m [.ref (ad 99)].toArray below meth c H locs 0 0 (MQ below (Don G A (dO G ad out dw ++ [])) [.ref (ad 99)].toArray s 0 0 A) (F0 m 11 ls []) := by
    intro k11 hk11 d_ad v1 hf H locs hw ls hl
    unfold b_X9_remembers_11 at hf
    refine r_iload0 C hl 1 rfl dX9_remembers_11 ?_
    refine lv_sipush (v := 11106) C.1 C.2.1 dX9_remembers_12 (by decide) ?_
    refine lv_icmp_ge (tgt := 40) C.1 C.2.1 dX9_remembers_15 (by decide) (fun hc => ?_) (fun hc => ?_)
    · replace hf := ifp hf hc
      refine r_aload0 C hl 0 rfl dX9_remembers_40 ?_
      refine lv_dup C.1 C.2.1 dX9_remembers_41 rfl ?_
      refine r_get C hw _ (gx_h dO_o) 23 fl_X9_239 rfl dX9_remembers_42 ?_
      refine lv_iconst (v := 1) C.1 C.2.1 dX9_remembers_45 (by decide) ?_
      refine lv_isub C.1 C.2.1 dX9_remembers_46 ?_
      obtain ⟨d_ad4, e4, hf⟩ := bx hf
      refine r_put C hw _ (gx_h dO_o) 23 fp_X9_239 rfl rfl (Nat.le_of_ble_eq_true rfl) (dO G ad d_ad4 dw ++ []) (sx_h dO_o (dO_p23 e4)) dX9_remembers_47 (fun H locs hw => ?_)
      refine lv_iconst (v := 0) C.1 C.2.1 dX9_remembers_50 (by decide) ?_
      refine r_istore0 C hl [(1, .int 0), (0, .ref (ad 99))] (by decide) rfl dX9_remembers_51 (fun ls hl => ?_)
      exact hL_52  FU d_ad4 0 hf _ _ hw _ (lv_sub hl [1, 0] rfl)
    · replace hf := ifn hf hc
      refine r_aload0 C hl 0 rfl dX9_remembers_18 ?_
      refine r_get C hw _ (gx_h dO_o) 22 fl_X9_41 rfl dX9_remembers_19 ?_
      refine r_iload0 C hl 1 rfl dX9_remembers_22 ?_
      refine r_aload0 C hl 0 rfl dX9_remembers_23 ?_
      refine r_get C hw _ (gx_h dO_o) 22 fl_X9_41 rfl dX9_remembers_24 ?_
      refine r_iload0 C hl 1 rfl dX9_remembers_27 ?_
      refine lv_sipush (v := 1234) C.1 C.2.1 dX9_remembers_28 (by decide) ?_
      refine lv_iadd C.1 C.2.1 dX9_remembers_31 ?_
      obtain ⟨v5_, e5, hf⟩ := bx hf
      refine r_iald C hw _ (gx_h dO_g22) e5 dX9_remembers_32 ?_
      obtain ⟨d_ad6, e6, hf⟩ := bx hf
      refine r_iast C hw _ (gx_h dO_g22) e6 (dO G ad d_ad6 dw ++ []) (fun h => (sx_h dO_g22 (dO_s22 h))) dX9_remembers_33 (fun H locs hw => ?_)
      refine r_iinc C hl 1 (v1 + 1) [(1, .int (v1 + 1)), (0, .ref (ad 99))] rfl (iinc_e (by decide)) (by decide) rfl dX9_remembers_34 (fun ls hl => ?_)
      refine lv_goto (tgt := 11) C.1 C.2.1 dX9_remembers_37 (by decide) ?_
      exact hk11 d_ad6 (v1 + 1) hf _ _ hw _ (lv_sub hl [1, 0] rfl)
  have hL_11 : ∀ n : Nat, ∀ (d_ad : Pic) (v1 : Int32), L_X9_remembers_11   n d_ad v1 = some out → ∀ (H : Heap) (locs : List Loc), Wd G A s H locs (dO G ad d_ad dw ++ []) → ∀ ls : Array Slot, lv_has ls 2 [(0, .ref (ad 99)), (1, .int v1)] → W p l e ({ frames := 0, cells := 0, slots := 0, locals := 0 }) s m [.ref (ad 99)].toArray below meth c H locs 0 0 (MQ below (Don G A (dO G ad out dw ++ [])) [.ref (ad 99)].toArray s 0 0 A) (F0 m 11 ls []) := by
    intro  n
    induction n with
    | zero => intro d_ad v1 hf; cases hf
    | succ n ih => exact hB_11 _ ih
  unfold f_X9_remembers at hf
  refine r_aload0 C hl 0 rfl dX9_remembers_0 ?_
  refine r_get C hw _ (gx_h dO_o) 23 fl_X9_239 rfl dX9_remembers_1 ?_
  refine lv_bipush (v := 10) C.1 C.2.1 dX9_remembers_4 (by decide) ?_
  refine lv_icmp_ne (tgt := 50) C.1 C.2.1 dX9_remembers_6 (by decide) (fun hc => ?_) (fun hc => ?_)
  · replace hf := ifn hf hc
    refine lv_iconst (v := 0) C.1 C.2.1 dX9_remembers_50 (by decide) ?_
    refine r_istore0 C hl [(1, .int 0), (0, .ref (ad 99))] (by decide) rfl dX9_remembers_51 (fun ls hl => ?_)
    exact hL_52  FU d_ad 0 hf _ _ hw _ (lv_sub hl [1, 0] rfl)
  · replace hf := ifp hf hc
    refine lv_iconst (v := 0) C.1 C.2.1 dX9_remembers_9 (by decide) ?_
    refine r_istore0 C hl [(1, .int 0), (0, .ref (ad 99))] (by decide) rfl dX9_remembers_10 (fun ls hl => ?_)
    exact hL_11  FU d_ad 0 hf _ _ hw _ (lv_sub hl [1, 0] rfl)
