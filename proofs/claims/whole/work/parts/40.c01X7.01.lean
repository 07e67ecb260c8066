set_option maxHeartbeats 4000000 in
set_option maxRecDepth 100000 in
theorem c_X7_emptiest (l : Launch) (G : GG) (ad : Nat → Nat) (sz : Nat) (z_ad : Pic) (x1 : Int32) (out : Int32) (hf : f_X7_emptiest z_ad x1 = some out) : Met l yX7_emptiest (.code yX7_emptiest cX7_emptiest 4 (some .int) :: BT) ({ frames := 1, cells := 0, slots := 0, locals := 22 }) (va_Pc [.ref (ad 199), .int x1] (PreW G sz (zO G ad z_ad ++ []))) (Ans G out (va_A (zO G ad z_ad ++ []) sz) (zO G ad z_ad ++ [])) 0 0 (va_A (zO G ad z_ad ++ []) sz) := by
  refine Met.into (by decide) (Nat.le_of_ble_eq_true rfl) ?_
  intro p e s m below meth c C hsz ls hl hw
  have hl : lv_has ls 4 [(0, .ref (ad 199)), (1, .int x1)] := hl
  clear hsz
  generalize va_A (zO G ad z_ad ++ []) sz = A at hw ⊢
  have hB_4 : ∀ (k4 : Int32 → Int32 → Option (Int32)) (hk4 : ∀ (v2 : Int32) (v3 : Int32), k4 v2 v3 = some out → ∀ (H : Heap) (locs : List Loc), Wd G A s H locs (zO G ad z_ad ++ []) → ∀ ls : Array Slot, lv_has ls 4 [(0, .ref (ad 199)), (1, .int x1), (2, .int v2), (3, .int v3)] → W p l e ({ frames := 1, cells := 0, slots := 0, locals := 22 }) s m [.ref (ad 199), .int x1].toArray below meth c H locs 0 0 (MQ below (Ans G out A (zO G ad z_ad ++ [])) [.ref (ad 199), .int x1].toArray s 0 0 A) (F0 m 4 ls [])), ∀ (v2 : Int32) (v3 : Int32), b_X7_emptiest_4 z_ad x1 k4 v2 v3 = some out → ∀ (H : Heap) (locs : List Loc), Wd G A s H locs (zO G ad z_ad ++ []) → ∀ ls : Array Slot, lv_has ls 4 [(0, .ref (ad 199)), (1, .int x1), (2, .int v2), (3, .int v3)] → W p l e ({ frames := 1, cells := 0, slots := 0, locals := 22 }) s m [.ref (ad 199), .int x1].toArray below meth c H locs 0 0 (MQ below (Ans G out A (zO G ad z_ad ++ [])) [.ref (ad 199), .int x1].toArray s 0 0 A) (F0 m 4 ls []) := by
    intro k4 hk4 v2 v3 hf H locs hw ls hl
    unfold b_X7_emptiest_4 at hf
    refine r_iload0 C hl 3 rfl dX7_emptiest_4 ?_
    refine lv_bipush (v := 24) C.1 C.2.1 dX7_emptiest_5 (by decide) ?_
    refine lv_icmp_ge (tgt := 46) C.1 C.2.1 dX7_emptiest_7 (by decide) (fun hc => ?_) (fun hc => ?_)
    · replace hf := ifp hf hc
      refine r_iload0 C hl 2 rfl dX7_emptiest_46 ?_
      exact fin_i C hw (Option.some.inj hf) (fun o => o) (fun o => (zO G ad z_ad ++ [])) rfl rfl dX7_emptiest_47
    · replace hf := ifn hf hc
      refine r_aload0 C hl 0 rfl dX7_emptiest_10 ?_
      refine r_iload0 C hl 3 rfl dX7_emptiest_11 ?_
      refine r_iload0 C hl 1 rfl dX7_emptiest_12 ?_
      obtain ⟨u1, e1, hf⟩ := bx hf
      refine r_callVi (ws' := (zO G ad z_ad ++ [])) (As := [.int v3, .int x1]) (rest := []) C hw hl.1 kX7_hasRoom ml_X7_43 (c_X7_hasRoom l G ad _ z_ad v3 x1 u1 e1) (CutX.take zO_f CutX.none) _ (gx_h zO_o) rfl ⟨rfl, rfl⟩ ⟨Nat.le_of_ble_eq_true rfl, Nat.le_of_ble_eq_true rfl⟩ rfl ⟨Nat.zero_le _, Nat.zero_le _⟩ rfl (Nat.le_of_ble_eq_true rfl) dX7_emptiest_13 (fun H locs hw => ?_)
      refine lv_if_eq (tgt := 40) C.1 C.2.1 dX7_emptiest_16 (by decide) (fun hc => ?_) (fun hc => ?_)
      · replace hf := ifp hf hc
        refine r_iinc C hl 3 (v3 + 1) [(3, .int (v3 + 1)), (0, .ref (ad 199)), (1, .int x1), (2, .int v2)] rfl (iinc_e (by decide)) (by decide) rfl dX7_emptiest_40 (fun ls hl => ?_)
        refine lv_goto (tgt := 4) C.1 C.2.1 dX7_emptiest_43 (by decide) ?_
        exact hk4 v2 (v3 + 1) hf _ _ hw _ (lv_sub hl [1, 2, 3, 0] rfl)
      · replace hf := ifn hf hc
        refine r_iload0 C hl 2 rfl dX7_emptiest_19 ?_
        refine lv_if_lt (tgt := 38) C.1 C.2.1 dX7_emptiest_20 (by decide) (fun hc => ?_) (fun hc => ?_)
        · replace hf := ifp hf hc
          refine r_iload0 C hl 3 rfl dX7_emptiest_38 ?_
          refine r_istore0 C hl [(2, .int v3), (0, .ref (ad 199)), (1, .int x1), (3, .int v3)] (by decide) rfl dX7_emptiest_39 (fun ls hl => ?_)
          refine r_iinc C hl 3 (v3 + 1) [(3, .int (v3 + 1)), (2, .int v3), (0, .ref (ad 199)), (1, .int x1)] rfl (iinc_e (by decide)) (by decide) rfl dX7_emptiest_40 (fun ls hl => ?_)
          refine lv_goto (tgt := 4) C.1 C.2.1 dX7_emptiest_43 (by decide) ?_
          exact hk4 v3 (v3 + 1) hf _ _ hw _ (lv_sub hl [2, 3, 1, 0] rfl)
        · replace hf := ifn hf hc
          refine r_aload0 C hl 0 rfl dX7_emptiest_23 ?_
          refine r_get C hw _ (gx_h zO_o) 4 fl_X7_21 rfl dX7_emptiest_24 ?_
          refine r_iload0 C hl 3 rfl dX7_emptiest_27 ?_
          obtain ⟨v2_, e2, hf⟩ := bx hf
          refine r_iald C hw _ (gx_h zO_g4) e2 dX7_emptiest_28 ?_
          refine r_aload0 C hl 0 rfl dX7_emptiest_29 ?_
          refine r_get C hw _ (gx_h zO_o) 4 fl_X7_21 rfl dX7_emptiest_30 ?_
          refine r_iload0 C hl 2 rfl dX7_emptiest_33 ?_
          obtain ⟨v3_, e3, hf⟩ := bx hf
          refine r_iald C hw _ (gx_h zO_g4) e3 dX7_emptiest_34 ?_
          refine lv_icmp_gt (tgt := 40) C.1 C.2.1 dX7_emptiest_35 (by decide) (fun hc => ?_) (fun hc => ?_)
          · replace hf := ifp hf hc
            refine r_iinc C hl 3 (v3 + 1) [(3, .int (v3 + 1)), (0, .ref (ad 199)), (1, .int x1), (2, .int v2)] rfl (iinc_e (by decide)) (by decide) rfl dX7_emptiest_40 (fun ls hl => ?_)
            refine lv_goto (tgt := 4) C.1 C.2.1 dX7_emptiest_43 (by decide) ?_
            exact hk4 v2 (v3 + 1) hf _ _ hw _ (lv_sub hl [1, 2, 3, 0] rfl)
          · replace hf := ifn hf hc
            refine r_iload0 C hl 3 rfl dX7_emptiest_38 ?_
            refine r_istore0 C hl [(2, .int v3), (0, .ref (ad 199)), (1, .int x1), (3, .int v3)] (by decide) rfl dX7_emptiest_39 (fun ls hl => ?_)
            refine r_iinc C hl 3 (v3 + 1) [(3, .int (v3 + 1)), (2, .int v3), (0, .ref (ad 199)), (1, .int x1)] rfl (iinc_e (by decide)) (by decide) rfl dX7_emptiest_40 (fun ls hl => ?_)
            refine lv_goto (tgt := 4) C.1 C.2.1 dX7_emptiest_43 (by decide) ?_
            exact hk4 v3 (v3 + 1) hf _ _ hw _ (lv_sub hl [2, 3, 1, 0] rfl)
  have hL_4 : ∀ n : Nat, ∀ (v2 : Int32) (v3 : Int32), L_X7_emptiest_4 z_ad x1  n v2 v3 = some out → ∀ (H : Heap) (locs : List Loc), Wd G A s H locs (zO G ad z_ad ++ []) → ∀ ls : Array Slot, lv_has ls 4 [(0, .ref (ad 199)), (1, .int x1), (2, .int v2), (3, .int v3)] → W p l e ({ frames := 1, cells := 0, slots := 0, locals := 22 }) s m [.ref (ad 199), .int x1].toArray below meth c H locs 0 0 (MQ below (Ans G out A (zO G ad z_ad ++ [])) [.ref (ad 199), .int x1].toArray s 0 0 A) (F0 m 4 ls []) := by
    intro  n
    induction n with
    | zero => intro v2 v3 hf; cases hf
    | succ n ih => exact hB_4 _ ih
  unfold f_X7_emptiest at hf
  refine lv_iconst (v := (-1)) C.1 C.2.1 dX7_emptiest_0 (by decide) ?_
  refine r_istore0 C hl [(2, .int (-1)), (0, .ref (ad 199)), (1, .int x1)] (by decide) rfl dX7_emptiest_1 (fun ls hl => ?_)
  refine lv_iconst (v := 0) C.1 C.2.1 dX7_emptiest_2 (by decide) ?_
  refine r_istore0 C hl [(3, .int 0), (2, .int (-1)), (0, .ref (ad 199)), (1, .int x1)] (by decide) rfl dX7_emptiest_3 (fun ls hl => ?_)
  exact hL_4  FU (-1) 0 hf _ _ hw _ (lv_sub hl [2, 3, 1, 0] rfl)
