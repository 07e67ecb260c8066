set_option maxHeartbeats 4000000 in
set_option maxRecDepth 100000 in
theorem c_X0_isClass (l : Launch) (G : GG)  (sz : Nat)  (x0 : Int32) (x1 : Int32) (out : Int32) (hf : f_X0_isClass x0 x1 = some out) : Met l yX0_isClass (.code yX0_isClass cX0_isClass 2 (some .boolean) :: BT) ({ frames := 0, cells := 0, slots := 0, locals := 0 }) (va_Pc [.int x0, .int x1] (PreW G sz [])) (Ans G out (va_A [] sz) []) 0 0 (va_A [] sz) := by
  refine Met.into (by decide) (Nat.le_of_ble_eq_true rfl) ?_
  intro p e s m below meth c C hsz ls hl hw
  have hl : lv_has ls 2 [(0, .int x0), (1, .int x1)] := hl
  clear hsz
  generalize va_A [] sz = A at hw ⊢
  unfold f_X0_isClass at hf
  refine r_iload0 C hl 0 rfl dX0_isClass_0 ?_
  refine lv_iconst (v := 1) C.1 C.2.1 dX0_isClass_1 (by decide) ?_
  refine lv_icmp_lt (tgt := 26) C.1 C.2.1 dX0_isClass_2 (by decide) (fun hc => ?_) (fun hc => ?_)
  · replace hf := ifp hf hc
    refine lv_iconst (v := 0) C.1 C.2.1 dX0_isClass_26 (by decide) ?_
    exact fin_z C hw (by decide) (Option.some.inj hf) (fun o => o) (fun o => []) rfl rfl dX0_isClass_27
  · replace hf := ifn hf hc
    refine r_iload0 C hl 0 rfl dX0_isClass_5 ?_
    refine lv_bipush (v := 16) C.1 C.2.1 dX0_isClass_6 (by decide) ?_
    refine lv_icmp_gt (tgt := 26) C.1 C.2.1 dX0_isClass_8 (by decide) (fun hc => ?_) (fun hc => ?_)
    · replace hf := ifp hf hc
      refine lv_iconst (v := 0) C.1 C.2.1 dX0_isClass_26 (by decide) ?_
      exact fin_z C hw (by decide) (Option.some.inj hf) (fun o => o) (fun o => []) rfl rfl dX0_isClass_27
    · replace hf := ifn hf hc
      refine r_iload0 C hl 1 rfl dX0_isClass_11 ?_
      refine lv_iconst (v := 1) C.1 C.2.1 dX0_isClass_12 (by decide) ?_
      refine lv_icmp_lt (tgt := 26) C.1 C.2.1 dX0_isClass_13 (by decide) (fun hc => ?_) (fun hc => ?_)
      · replace hf := ifp hf hc
        refine lv_iconst (v := 0) C.1 C.2.1 dX0_isClass_26 (by decide) ?_
        exact fin_z C hw (by decide) (Option.some.inj hf) (fun o => o) (fun o => []) rfl rfl dX0_isClass_27
      · replace hf := ifn hf hc
        refine r_iload0 C hl 0 rfl dX0_isClass_16 ?_
        refine r_iload0 C hl 1 rfl dX0_isClass_17 ?_
        obtain ⟨v1_, e1, hf⟩ := bx hf
        refine r_irem C e1 dX0_isClass_18 ?_
        refine lv_if_ne (tgt := 26) C.1 C.2.1 dX0_isClass_19 (by decide) (fun hc => ?_) (fun hc => ?_)
        · replace hf := ifn hf hc
          refine lv_iconst (v := 0) C.1 C.2.1 dX0_isClass_26 (by decide) ?_
          exact fin_z C hw (by decide) (Option.some.inj hf) (fun o => o) (fun o => []) rfl rfl dX0_isClass_27
        · replace hf := ifp hf hc
          refine lv_iconst (v := 1) C.1 C.2.1 dX0_isClass_22 (by decide) ?_
          refine lv_goto (tgt := 27) C.1 C.2.1 dX0_isClass_23 (by decide) ?_
          exact fin_z C hw (by decide) (Option.some.inj hf) (fun o => o) (fun o => []) rfl rfl dX0_isClass_27
set_option maxHeartbeats 4000000 in
set_option maxRecDepth 100000 in
theorem c_X0_homeOf (l : Launch) (G : GG)  (sz : Nat)  (x0 : Int32) (x1 : Int32) (out : Int32) (hf : f_X0_homeOf x0 x1 = some out) : Met l yX0_homeOf (.code yX0_homeOf cX0_homeOf 2 (some .int) :: BT) ({ frames := 0, cells := 0, slots := 0, locals := 0 }) (va_Pc [.int x0, .int x1] (PreW G sz [])) (Ans G out (va_A [] sz) []) 0 0 (va_A [] sz) := by
  refine Met.into (by decide) (Nat.le_of_ble_eq_true rfl) ?_
  intro p e s m below meth c C hsz ls hl hw
  have hl : lv_has ls 2 [(0, .int x0), (1, .int x1)] := hl
  clear hsz
  generalize va_A [] sz = A at hw ⊢
  unfold f_X0_homeOf at hf
  refine r_iload0 C hl 1 rfl dX0_homeOf_0 ?_
  refine lv_iconst (v := 1) C.1 C.2.1 dX0_homeOf_1 (by decide) ?_
  refine lv_icmp_lt (tgt := 17) C.1 C.2.1 dX0_homeOf_2 (by decide) (fun hc => ?_) (fun hc => ?_)
  · replace hf := ifp hf hc
    refine r_iload0 C hl 0 rfl dX0_homeOf_17 ?_
    exact fin_i C hw (Option.some.inj hf) (fun o => o) (fun o => []) rfl rfl dX0_homeOf_18
  · replace hf := ifn hf hc
    refine r_iload0 C hl 0 rfl dX0_homeOf_5 ?_
    refine r_iload0 C hl 1 rfl dX0_homeOf_6 ?_
    refine lv_iadd C.1 C.2.1 dX0_homeOf_7 ?_
    refine lv_iconst (v := 1) C.1 C.2.1 dX0_homeOf_8 (by decide) ?_
    refine lv_isub C.1 C.2.1 dX0_homeOf_9 ?_
    refine r_iload0 C hl 1 rfl dX0_homeOf_10 ?_
    obtain ⟨v1_, e1, hf⟩ := bx hf
    refine r_idiv C e1 dX0_homeOf_11 ?_
    refine r_iload0 C hl 1 rfl dX0_homeOf_12 ?_
    refine lv_imul C.1 C.2.1 dX0_homeOf_13 ?_
    refine lv_goto (tgt := 18) C.1 C.2.1 dX0_homeOf_14 (by decide) ?_
    exact fin_i C hw (Option.some.inj hf) (fun o => o) (fun o => []) rfl rfl dX0_homeOf_18
set_option maxHeartbeats 4000000 in
set_option maxRecDepth 100000 in
theorem c_X0_framesOf (l : Launch) (G : GG)  (sz : Nat)  (x0 : Int32) (out : Int32) (hf : f_X0_framesOf x0 = some out) : Met l yX0_framesOf (.code yX0_framesOf cX0_framesOf 3 (some .int) :: BT) ({ frames := 0, cells := 0, slots := 0, locals := 0 }) (va_Pc [.int x0] (PreW G sz [])) (Ans G out (va_A [] sz) []) 0 0 (va_A [] sz) := by
  refine Met.into (by decide) (Nat.le_of_ble_eq_true rfl) ?_
  intro p e s m below meth c C hsz ls hl hw
  have hl : lv_has ls 3 [(0, .int x0)] := hl
  clear hsz
  generalize va_A [] sz = A at hw ⊢
  have hB_11 : ∀ (k11 : Int32 → Int32 → Option (Int32)) (hk11 : ∀ (v1 : Int32) (v2 : Int32), k11 v1 v2 = some out → ∀ (H : Heap) (locs : List Loc), Wd G A s H locs [] → ∀ ls : Array Slot, lv_has ls 3 [(0, .int x0), (1, .int v1), (2, .int v2)] → W p l e ({ frames := 0, cells := 0, slots := 0, locals := 0 }) s m [.int x0].toArray below meth c H locs 0 0 (MQ below (Ans G out A []) [.int x0].toArray s 0 0 A) (F0 m 11 ls [])), ∀ (v1 : Int32) (v2 : Int32), b_X0_framesOf_11 x0 k11 v1 v2 = some out → ∀ (H : Heap) (locs : List Loc), Wd G A s H locs [] → ∀ ls : Array Slot, lv_has ls 3 [(0, .int x0), (1, .int v1), (2, .int v2)] → W p l e ({ frames := 0, cells := 0, slots := 0, locals := 0 }) s m [.int x0].toArray below meth c H locs 0 0 (MQ below (Ans G out A []) [.int x0].toArray s 0 0 A) (F0 m 11 ls []) := by
    intro k11 hk11 v1 v2 hf H locs hw ls hl
    unfold b_X0_framesOf_11 at hf
    refine r_iload0 C hl 2 rfl dX0_framesOf_11 ?_
    refine lv_iconst (v := 4) C.1 C.2.1 dX0_framesOf_12 (by decide) ?_
    refine lv_icmp_gt (tgt := 43) C.1 C.2.1 dX0_framesOf_13 (by decide) (fun hc => ?_) (fun hc => ?_)
    · replace hf := ifp hf hc
      refine r_iload0 C hl 1 rfl dX0_framesOf_43 ?_
      exact fin_i C hw (Option.some.inj hf) (fun o => o) (fun o => []) rfl rfl dX0_framesOf_44
    · replace hf := ifn hf hc
      refine lv_bipush (v := 16) C.1 C.2.1 dX0_framesOf_16 (by decide) ?_
      refine r_iload0 C hl 2 rfl dX0_framesOf_18 ?_
      refine lv_imul C.1 C.2.1 dX0_framesOf_19 ?_
      refine r_iload0 C hl 0 rfl dX0_framesOf_20 ?_
      obtain ⟨v1_, e1, hf⟩ := bx hf
      refine r_irem C e1 dX0_framesOf_21 ?_
      refine r_iload0 C hl 1 rfl dX0_framesOf_22 ?_
      refine lv_imul C.1 C.2.1 dX0_framesOf_23 ?_
      refine lv_bipush (v := 16) C.1 C.2.1 dX0_framesOf_24 (by decide) ?_
      refine r_iload0 C hl 1 rfl dX0_framesOf_26 ?_
      refine lv_imul C.1 C.2.1 dX0_framesOf_27 ?_
      refine r_iload0 C hl 0 rfl dX0_framesOf_28 ?_
      obtain ⟨v2_, e2, hf⟩ := bx hf
      refine r_irem C e2 dX0_framesOf_29 ?_
      refine r_iload0 C hl 2 rfl dX0_framesOf_30 ?_
      refine lv_imul C.1 C.2.1 dX0_framesOf_31 ?_
      refine lv_icmp_ge (tgt := 37) C.1 C.2.1 dX0_framesOf_32 (by decide) (fun hc => ?_) (fun hc => ?_)
      · replace hf := ifp hf hc
        refine r_iinc C hl 2 (v2 + 1) [(2, .int (v2 + 1)), (0, .int x0), (1, .int v1)] rfl (iinc_e (by decide)) (by decide) rfl dX0_framesOf_37 (fun ls hl => ?_)
        refine lv_goto (tgt := 11) C.1 C.2.1 dX0_framesOf_40 (by decide) ?_
        exact hk11 v1 (v2 + 1) hf _ _ hw _ (lv_sub hl [1, 2, 0] rfl)
      · replace hf := ifn hf hc
        refine r_iload0 C hl 2 rfl dX0_framesOf_35 ?_
        refine r_istore0 C hl [(1, .int v2), (0, .int x0), (2, .int v2)] (by decide) rfl dX0_framesOf_36 (fun ls hl => ?_)
        refine r_iinc C hl 2 (v2 + 1) [(2, .int (v2 + 1)), (1, .int v2), (0, .int x0)] rfl (iinc_e (by decide)) (by decide) rfl dX0_framesOf_37 (fun ls hl => ?_)
        refine lv_goto (tgt := 11) C.1 C.2.1 dX0_framesOf_40 (by decide) ?_
        exact hk11 v2 (v2 + 1) hf _ _ hw _ (lv_sub hl [2, 1, 0] rfl)
  have hL_11 : ∀ n : Nat, ∀ (v1 : Int32) (v2 : Int32), L_X0_framesOf_11 x0  n v1 v2 = some out → ∀ (H : Heap) (locs : List Loc), Wd G A s H locs [] → ∀ ls : Array Slot, lv_has ls 3 [(0, .int x0), (1, .int v1), (2, .int v2)] → W p l e ({ frames := 0, cells := 0, slots := 0, locals := 0 }) s m [.int x0].toArray below meth c H locs 0 0 (MQ below (Ans G out A []) [.int x0].toArray s 0 0 A) (F0 m 11 ls []) := by
    intro  n
    induction n with
    | zero => intro v1 v2 hf; cases hf
    | succ n ih => exact hB_11 _ ih
  unfold f_X0_framesOf at hf
  refine r_iload0 C hl 0 rfl dX0_framesOf_0 ?_
  refine lv_iconst (v := 1) C.1 C.2.1 dX0_framesOf_1 (by decide) ?_
  refine lv_icmp_ge (tgt := 7) C.1 C.2.1 dX0_framesOf_2 (by decide) (fun hc => ?_) (fun hc => ?_)
  · replace hf := ifp hf hc
    refine lv_iconst (v := 1) C.1 C.2.1 dX0_framesOf_7 (by decide) ?_
    refine r_istore0 C hl [(1, .int 1), (0, .int x0)] (by decide) rfl dX0_framesOf_8 (fun ls hl => ?_)
    refine lv_iconst (v := 2) C.1 C.2.1 dX0_framesOf_9 (by decide) ?_
    refine r_istore0 C hl [(2, .int 2), (1, .int 1), (0, .int x0)] (by decide) rfl dX0_framesOf_10 (fun ls hl => ?_)
    exact hL_11  FU 1 2 hf _ _ hw _ (lv_sub hl [2, 1, 0] rfl)
  · replace hf := ifn hf hc
    refine lv_iconst (v := 0) C.1 C.2.1 dX0_framesOf_5 (by decide) ?_
    exact fin_i C hw (Option.some.inj hf) (fun o => o) (fun o => []) rfl rfl dX0_framesOf_6
set_option maxHeartbeats 4000000 in
set_option maxRecDepth 100000 in
theorem c_X0_slotsOf (l : Launch) (G : GG)  (sz : Nat)  (x0 : Int32) (out : Int32) (hf : f_X0_slotsOf x0 = some out) : Met l yX0_slotsOf (.code yX0_slotsOf cX0_slotsOf 1 (some .int) :: BT) ({ frames := 1, cells := 0, slots := 0, locals := 22 }) (va_Pc [.int x0] (PreW G sz [])) (Ans G out (va_A [] sz) []) 0 0 (va_A [] sz) := by
  refine Met.into (by decide) (Nat.le_of_ble_eq_true rfl) ?_
  intro p e s m below meth c C hsz ls hl hw
  have hl : lv_has ls 1 [(0, .int x0)] := hl
  clear hsz
  generalize va_A [] sz = A at hw ⊢
  unfold f_X0_slotsOf at hf
  refine r_iload0 C hl 0 rfl dX0_slotsOf_0 ?_
  refine lv_iconst (v := 1) C.1 C.2.1 dX0_slotsOf_1 (by decide) ?_
  refine lv_icmp_ge (tgt := 9) C.1 C.2.1 dX0_slotsOf_2 (by decide) (fun hc => ?_) (fun hc => ?_)
  · replace hf := ifp hf hc
    refine lv_bipush (v := 16) C.1 C.2.1 dX0_slotsOf_9 (by decide) ?_
    refine r_iload0 C hl 0 rfl dX0_slotsOf_11 ?_
    obtain ⟨u1, e1, hf⟩ := bx hf
    refine r_callSi (ws' := []) (As := [.int x0]) (rest := [.int 16]) C hw hl.1 kX0_framesOf ml_X0_11 (c_X0_framesOf l G _ x0 u1 e1) CutX.none ⟨rfl, rfl⟩ ⟨Nat.le_of_ble_eq_true rfl, Nat.le_of_ble_eq_true rfl⟩ rfl ⟨Nat.zero_le _, Nat.zero_le _⟩ rfl (Nat.le_of_ble_eq_true rfl) dX0_slotsOf_12 (fun H locs hw => ?_)
    refine lv_imul C.1 C.2.1 dX0_slotsOf_15 ?_
    refine r_iload0 C hl 0 rfl dX0_slotsOf_16 ?_
    obtain ⟨v2_, e2, hf⟩ := bx hf
    refine r_idiv C e2 dX0_slotsOf_17 ?_
    exact fin_i C hw (Option.some.inj hf) (fun o => o) (fun o => []) rfl rfl dX0_slotsOf_18
  · replace hf := ifn hf hc
    refine lv_iconst (v := 0) C.1 C.2.1 dX0_slotsOf_5 (by decide) ?_
    refine lv_goto (tgt := 18) C.1 C.2.1 dX0_slotsOf_6 (by decide) ?_
    exact fin_i C hw (Option.some.inj hf) (fun o => o) (fun o => []) rfl rfl dX0_slotsOf_18
set_option maxHeartbeats 4000000 in
set_option maxRecDepth 100000 in
theorem c_X0_spareOf (l : Launch) (G : GG)  (sz : Nat)  (x0 : Int32) (out : Int32) (hf : f_X0_spareOf x0 = some out) : Met l yX0_spareOf (.code yX0_spareOf cX0_spareOf 1 (some .int) :: BT) ({ frames := 1, cells := 0, slots := 0, locals := 22 }) (va_Pc [.int x0] (PreW G sz [])) (Ans G out (va_A [] sz) []) 0 0 (va_A [] sz) := by
  refine Met.into (by decide) (Nat.le_of_ble_eq_true rfl) ?_
  intro p e s m below meth c C hsz ls hl hw
  have hl : lv_has ls 1 [(0, .int x0)] := hl
  clear hsz
  generalize va_A [] sz = A at hw ⊢
  unfold f_X0_spareOf at hf
  refine r_iload0 C hl 0 rfl dX0_spareOf_0 ?_
  refine lv_iconst (v := 1) C.1 C.2.1 dX0_spareOf_1 (by decide) ?_
  refine lv_icmp_ge (tgt := 9) C.1 C.2.1 dX0_spareOf_2 (by decide) (fun hc => ?_) (fun hc => ?_)
  · replace hf := ifp hf hc
    refine lv_bipush (v := 16) C.1 C.2.1 dX0_spareOf_9 (by decide) ?_
    refine r_iload0 C hl 0 rfl dX0_spareOf_11 ?_
    obtain ⟨u1, e1, hf⟩ := bx hf
    refine r_callSi (ws' := []) (As := [.int x0]) (rest := [.int 16]) C hw hl.1 kX0_framesOf ml_X0_11 (c_X0_framesOf l G _ x0 u1 e1) CutX.none ⟨rfl, rfl⟩ ⟨Nat.le_of_ble_eq_true rfl, Nat.le_of_ble_eq_true rfl⟩ rfl ⟨Nat.zero_le _, Nat.zero_le _⟩ rfl (Nat.le_of_ble_eq_true rfl) dX0_spareOf_12 (fun H locs hw => ?_)
    refine lv_imul C.1 C.2.1 dX0_spareOf_15 ?_
    refine r_iload0 C hl 0 rfl dX0_spareOf_16 ?_
    obtain ⟨v2_, e2, hf⟩ := bx hf
    refine r_irem C e2 dX0_spareOf_17 ?_
    exact fin_i C hw (Option.some.inj hf) (fun o => o) (fun o => []) rfl rfl dX0_spareOf_18
  · replace hf := ifn hf hc
    refine lv_iconst (v := 0) C.1 C.2.1 dX0_spareOf_5 (by decide) ?_
    refine lv_goto (tgt := 18) C.1 C.2.1 dX0_spareOf_6 (by decide) ?_
    exact fin_i C hw (Option.some.inj hf) (fun o => o) (fun o => []) rfl rfl dX0_spareOf_18
