set_option maxHeartbeats 4000000 in
set_option maxRecDepth 100000 in
theorem c_X4_place (l : Launch) (G : GG) (ar : Nat → Nat) (ab : Nat → Nat) (at_ : Nat → Nat) (sz : Nat) (r_ar : Pic)  (out : Int32) (hf : f_X4_place r_ar = some out) : Met l yX4_place (.code yX4_place cX4_place 1 (some .int) :: BT) ({ frames := 0, cells := 0, slots := 0, locals := 0 }) (va_Pc [.ref (ar 99)] (PreW G sz (rO G ar ab at_ r_ar ++ []))) (Ans G out (va_A (rO G ar ab at_ r_ar ++ []) sz) (rO G ar ab at_ r_ar ++ [])) 0 0 (va_A (rO G ar ab at_ r_ar ++ []) sz) := by
  refine Met.into (by decide) (Nat.le_of_ble_eq_true rfl) ?_
  intro p e s m below meth c C hsz ls hl hw
  have hl : lv_has ls 1 [(0, .ref (ar 99))] := hl
  clear hsz
  generalize va_A (rO G ar ab at_ r_ar ++ []) sz = A at hw ⊢
  unfold f_X4_place at hf
  refine r_aload0 C hl 0 rfl dX4_place_0 ?_
  refine r_get C hw _ (gx_h rO_o) 7 fl_X4_55 rfl dX4_place_1 ?_
  exact fin_i C hw (Option.some.inj hf) (fun o => o) (fun o => (rO G ar ab at_ r_ar ++ [])) rfl rfl dX4_place_4
set_option maxHeartbeats 4000000 in
set_option maxRecDepth 100000 in
theorem c_X4_tooMany (l : Launch) (G : GG) (ar : Nat → Nat) (ab : Nat → Nat) (at_ : Nat → Nat) (sz : Nat) (r_ar : Pic) (x1 : Int32) (out : Int32 × Pic) (hf : f_X4_tooMany r_ar x1 = some out) : Met l yX4_tooMany (.code yX4_tooMany cX4_tooMany 2 (some .int) :: BT) ({ frames := 0, cells := 0, slots := 0, locals := 0 }) (va_Pc [.ref (ar 99), .int x1] (PreW G sz (rO G ar ab at_ r_ar ++ []))) (Ans G out.1 (va_A (rO G ar ab at_ r_ar ++ []) sz) (rO G ar ab at_ out.2 ++ [])) 0 0 (va_A (rO G ar ab at_ r_ar ++ []) sz) := by
  refine Met.into (by decide) (Nat.le_of_ble_eq_true rfl) ?_
  intro p e s m below meth c C hsz ls hl hw
  have hl : lv_has ls 2 [(0, .ref (ar 99)), (1, .int x1)] := hl
  clear hsz
  generalize va_A (rO G ar ab at_ r_ar ++ []) sz = A at hw ⊢
  unfold f_X4_tooMany at hf
  refine r_aload0 C hl 0 rfl dX4_tooMany_0 ?_
  refine lv_bipush (v := 6) C.1 C.2.1 dX4_tooMany_1 (by decide) ?_
  obtain ⟨r_ar1, e1, hf⟩ := bx hf
  refine r_put C hw _ (gx_h rO_o) 6 fp_X4_42 rfl rfl (Nat.le_of_ble_eq_true rfl) (rO G ar ab at_ r_ar1 ++ []) (sx_h rO_o (rO_p6 e1)) dX4_tooMany_3 (fun H locs hw => ?_)
  refine r_aload0 C hl 0 rfl dX4_tooMany_6 ?_
  refine r_iload0 C hl 1 rfl dX4_tooMany_7 ?_
  obtain ⟨r_ar2, e2, hf⟩ := bx hf
  refine r_put C hw _ (gx_h rO_o) 7 fp_X4_55 rfl rfl (Nat.le_of_ble_eq_true rfl) (rO G ar ab at_ r_ar2 ++ []) (sx_h rO_o (rO_p7 e2)) dX4_tooMany_8 (fun H locs hw => ?_)
  refine lv_iconst (v := 0) C.1 C.2.1 dX4_tooMany_11 (by decide) ?_
  exact fin_i C hw (Option.some.inj hf) (fun o => o.1) (fun o => (rO G ar ab at_ o.2 ++ [])) rfl rfl dX4_tooMany_12
set_option maxHeartbeats 4000000 in
set_option maxRecDepth 100000 in
theorem c_X4_fail (l : Launch) (G : GG) (ar : Nat → Nat) (ab : Nat → Nat) (at_ : Nat → Nat) (sz : Nat) (r_ar : Pic) (x1 : Int32) (out : Int32 × Pic) (hf : f_X4_fail r_ar x1 = some out) : Met l yX4_fail (.code yX4_fail cX4_fail 2 (some .boolean) :: BT) ({ frames := 0, cells := 0, slots := 0, locals := 0 }) (va_Pc [.ref (ar 99), .int x1] (PreW G sz (rO G ar ab at_ r_ar ++ []))) (Ans G out.1 (va_A (rO G ar ab at_ r_ar ++ []) sz) (rO G ar ab at_ out.2 ++ [])) 0 0 (va_A (rO G ar ab at_ r_ar ++ []) sz) := by
  refine Met.into (by decide) (Nat.le_of_ble_eq_true rfl) ?_
  intro p e s m below meth c C hsz ls hl hw
  have hl : lv_has ls 2 [(0, .ref (ar 99)), (1, .int x1)] := hl
  clear hsz
  generalize va_A (rO G ar ab at_ r_ar ++ []) sz = A at hw ⊢
  unfold f_X4_fail at hf
  refine r_aload0 C hl 0 rfl dX4_fail_0 ?_
  refine r_iload0 C hl 1 rfl dX4_fail_1 ?_
  obtain ⟨r_ar1, e1, hf⟩ := bx hf
  refine r_put C hw _ (gx_h rO_o) 6 fp_X4_42 rfl rfl (Nat.le_of_ble_eq_true rfl) (rO G ar ab at_ r_ar1 ++ []) (sx_h rO_o (rO_p6 e1)) dX4_fail_2 (fun H locs hw => ?_)
  refine r_aload0 C hl 0 rfl dX4_fail_5 ?_
  refine r_aload0 C hl 0 rfl dX4_fail_6 ?_
  refine r_get C hw _ (gx_h rO_o) 3 fl_X4_131 rfl dX4_fail_7 ?_
  obtain ⟨r_ar2, e2, hf⟩ := bx hf
  refine r_put C hw _ (gx_h rO_o) 7 fp_X4_55 rfl rfl (Nat.le_of_ble_eq_true rfl) (rO G ar ab at_ r_ar2 ++ []) (sx_h rO_o (rO_p7 e2)) dX4_fail_10 (fun H locs hw => ?_)
  refine lv_iconst (v := 0) C.1 C.2.1 dX4_fail_13 (by decide) ?_
  exact fin_z C hw (by decide) (Option.some.inj hf) (fun o => o.1) (fun o => (rO G ar ab at_ o.2 ++ [])) rfl rfl dX4_fail_14
set_option maxHeartbeats 4000000 in
set_option maxRecDepth 100000 in
theorem c_X4_isLineEnd (l : Launch) (G : GG) (ar : Nat → Nat) (ab : Nat → Nat) (at_ : Nat → Nat) (sz : Nat) (r_ar : Pic)  (out : Int32) (hf : f_X4_isLineEnd r_ar = some out) : Met l yX4_isLineEnd (.code yX4_isLineEnd cX4_isLineEnd 1 (some .boolean) :: BT) ({ frames := 0, cells := 0, slots := 0, locals := 0 }) (va_Pc [.ref (ar 99)] (PreW G sz (rO G ar ab at_ r_ar ++ []))) (Ans G out (va_A (rO G ar ab at_ r_ar ++ []) sz) (rO G ar ab at_ r_ar ++ [])) 0 0 (va_A (rO G ar ab at_ r_ar ++ []) sz) := by
  refine Met.into (by decide) (Nat.le_of_ble_eq_true rfl) ?_
  intro p e s m below meth c C hsz ls hl hw
  have hl : lv_has ls 1 [(0, .ref (ar 99))] := hl
  clear hsz
  generalize va_A (rO G ar ab at_ r_ar ++ []) sz = A at hw ⊢
  unfold f_X4_isLineEnd at hf
  refine r_aload0 C hl 0 rfl dX4_isLineEnd_0 ?_
  refine r_get C hw _ (gx_h rO_o) 4 fl_X4_52 rfl dX4_isLineEnd_1 ?_
  refine lv_iconst (v := 3) C.1 C.2.1 dX4_isLineEnd_4 (by decide) ?_
  refine lv_icmp_eq (tgt := 15) C.1 C.2.1 dX4_isLineEnd_5 (by decide) (fun hc => ?_) (fun hc => ?_)
  · replace hf := ifp hf hc
    refine lv_iconst (v := 1) C.1 C.2.1 dX4_isLineEnd_15 (by decide) ?_
    refine lv_goto (tgt := 20) C.1 C.2.1 dX4_isLineEnd_16 (by decide) ?_
    exact fin_z C hw (by decide) (Option.some.inj hf) (fun o => o) (fun o => (rO G ar ab at_ r_ar ++ [])) rfl rfl dX4_isLineEnd_20
  · replace hf := ifn hf hc
    refine r_aload0 C hl 0 rfl dX4_isLineEnd_8 ?_
    refine r_get C hw _ (gx_h rO_o) 4 fl_X4_52 rfl dX4_isLineEnd_9 ?_
    refine lv_if_ne (tgt := 19) C.1 C.2.1 dX4_isLineEnd_12 (by decide) (fun hc => ?_) (fun hc => ?_)
    · replace hf := ifn hf hc
      refine lv_iconst (v := 0) C.1 C.2.1 dX4_isLineEnd_19 (by decide) ?_
      exact fin_z C hw (by decide) (Option.some.inj hf) (fun o => o) (fun o => (rO G ar ab at_ r_ar ++ [])) rfl rfl dX4_isLineEnd_20
    · replace hf := ifp hf hc
      refine lv_iconst (v := 1) C.1 C.2.1 dX4_isLineEnd_15 (by decide) ?_
      refine lv_goto (tgt := 20) C.1 C.2.1 dX4_isLineEnd_16 (by decide) ?_
      exact fin_z C hw (by decide) (Option.some.inj hf) (fun o => o) (fun o => (rO G ar ab at_ r_ar ++ [])) rfl rfl dX4_isLineEnd_20
set_option maxHeartbeats 4000000 in
set_option maxRecDepth 100000 in
theorem c_X4_kindAt (l : Launch) (G : GG) (ar : Nat → Nat) (ab : Nat → Nat) (at_ : Nat → Nat) (sz : Nat) (r_ar : Pic) (b_ab : Pic) (x1 : Int32) (out : Int32) (hf : f_X4_kindAt r_ar b_ab x1 = some out) : Met l yX4_kindAt (.code yX4_kindAt cX4_kindAt 3 (some .int) :: BT) ({ frames := 0, cells := 0, slots := 0, locals := 0 }) (va_Pc [.ref (ar 99), .int x1] (PreW G sz (rO G ar ab at_ r_ar ++ (bO G ab b_ab ++ [])))) (Ans G out (va_A (rO G ar ab at_ r_ar ++ (bO G ab b_ab ++ [])) sz) (rO G ar ab at_ r_ar ++ (bO G ab b_ab ++ []))) 0 0 (va_A (rO G ar ab at_ r_ar ++ (bO G ab b_ab ++ [])) sz) := by
  refine Met.into (by decide) (Nat.le_of_ble_eq_true rfl) ?_
  intro p e s m below meth c C hsz ls hl hw
  have hl : lv_has ls 3 [(0, .ref (ar 99)), (1, .int x1)] := hl
  clear hsz
  generalize va_A (rO G ar ab at_ r_ar ++ (bO G ab b_ab ++ [])) sz = A at hw ⊢
  have hB_58 : ∀ (v2 : Int32), b_X4_kindAt_58 r_ar b_ab x1  v2 = some out → ∀ (H : Heap) (locs : List Loc), Wd G A s H locs (rO G ar ab at_ r_ar ++ (bO G ab b_ab ++ [])) → ∀ ls : Array Slot, lv_has ls 3 [(2, .int v2)] → W p l e ({ frames := 0, cells := 0, slots := 0, locals := 0 }) s m [.ref (ar 99), .int x1].toArray below meth c H locs 0 0 (MQ below (Ans G out A (rO G ar ab at_ r_ar ++ (bO G ab b_ab ++ []))) [.ref (ar 99), .int x1].toArray s 0 0 A) (F0 m 58 ls []) := by
    intro v2 hf H locs hw ls hl
    unfold b_X4_kindAt_58 at hf
    refine r_iload0 C hl 0 rfl dX4_kindAt_58 ?_
    rcases Decidable.em (v2 = 32) with hc | h32_
    · replace hf := ifp hf hc
      refine lv_lookup (off := 33) (tgt := 92) C.1 C.2.1 dX4_kindAt_59 (by decide) (by rw [hc] <;> rfl) (by decide) ?_
      refine lv_iconst (v := 5) C.1 C.2.1 dX4_kindAt_92 (by decide) ?_
      exact fin_i C hw (Option.some.inj hf) (fun o => o) (fun o => (rO G ar ab at_ r_ar ++ (bO G ab b_ab ++ []))) rfl rfl dX4_kindAt_93
    replace hf := ifn hf h32_
    rcases Decidable.em (v2 = 44) with hc | h44_
    · replace hf := ifp hf hc
      refine lv_lookup (off := 37) (tgt := 96) C.1 C.2.1 dX4_kindAt_59 (by decide) (by rw [hc] <;> rfl) (by decide) ?_
      refine lv_iconst (v := 4) C.1 C.2.1 dX4_kindAt_96 (by decide) ?_
      exact fin_i C hw (Option.some.inj hf) (fun o => o) (fun o => (rO G ar ab at_ r_ar ++ (bO G ab b_ab ++ []))) rfl rfl dX4_kindAt_97
    replace hf := ifn hf h44_
    rcases Decidable.em (v2 = 59) with hc | h59_
    · replace hf := ifp hf hc
      refine lv_lookup (off := 35) (tgt := 94) C.1 C.2.1 dX4_kindAt_59 (by decide) (by rw [hc] <;> rfl) (by decide) ?_
      refine lv_iconst (v := 3) C.1 C.2.1 dX4_kindAt_94 (by decide) ?_
      exact fin_i C hw (Option.some.inj hf) (fun o => o) (fun o => (rO G ar ab at_ r_ar ++ (bO G ab b_ab ++ []))) rfl rfl dX4_kindAt_95
    replace hf := ifn hf h59_
    refine lv_lookup (off := 39) (tgt := 98) C.1 C.2.1 dX4_kindAt_59 (by decide) ((lv_osw h32_ (by decide)).trans ((lv_osw h44_ (by decide)).trans ((lv_osw h59_ (by decide)).trans (rfl)))) (by decide) ?_
    refine lv_bipush (v := 6) C.1 C.2.1 dX4_kindAt_98 (by decide) ?_
    exact fin_i C hw (Option.some.inj hf) (fun o => o) (fun o => (rO G ar ab at_ r_ar ++ (bO G ab b_ab ++ []))) rfl rfl dX4_kindAt_100
  have hB_44 : ∀ (v2 : Int32), b_X4_kindAt_44 r_ar b_ab x1  v2 = some out → ∀ (H : Heap) (locs : List Loc), Wd G A s H locs (rO G ar ab at_ r_ar ++ (bO G ab b_ab ++ [])) → ∀ ls : Array Slot, lv_has ls 3 [(2, .int v2)] → W p l e ({ frames := 0, cells := 0, slots := 0, locals := 0 }) s m [.ref (ar 99), .int x1].toArray below meth c H locs 0 0 (MQ below (Ans G out A (rO G ar ab at_ r_ar ++ (bO G ab b_ab ++ []))) [.ref (ar 99), .int x1].toArray s 0 0 A) (F0 m 44 ls []) := by
    intro v2 hf H locs hw ls hl
    unfold b_X4_kindAt_44 at hf
    refine r_iload0 C hl 0 rfl dX4_kindAt_44 ?_
    refine lv_bipush (v := 48) C.1 C.2.1 dX4_kindAt_45 (by decide) ?_
    refine lv_icmp_lt (tgt := 58) C.1 C.2.1 dX4_kindAt_47 (by decide) (fun hc => ?_) (fun hc => ?_)
    · replace hf := ifp hf hc
      exact hB_58  v2 hf _ _ hw _ (lv_sub hl [0] rfl)
    · replace hf := ifn hf hc
      refine r_iload0 C hl 0 rfl dX4_kindAt_50 ?_
      refine lv_bipush (v := 57) C.1 C.2.1 dX4_kindAt_51 (by decide) ?_
      refine lv_icmp_gt (tgt := 58) C.1 C.2.1 dX4_kindAt_53 (by decide) (fun hc => ?_) (fun hc => ?_)
      · replace hf := ifp hf hc
        exact hB_58  v2 hf _ _ hw _ (lv_sub hl [0] rfl)
      · replace hf := ifn hf hc
        refine lv_iconst (v := 2) C.1 C.2.1 dX4_kindAt_56 (by decide) ?_
        exact fin_i C hw (Option.some.inj hf) (fun o => o) (fun o => (rO G ar ab at_ r_ar ++ (bO G ab b_ab ++ []))) rfl rfl dX4_kindAt_57
  unfold f_X4_kindAt at hf
  refine r_iload0 C hl 1 rfl dX4_kindAt_0 ?_
  refine lv_if_lt (tgt := 21) C.1 C.2.1 dX4_kindAt_1 (by decide) (fun hc => ?_) (fun hc => ?_)
  · replace hf := ifp hf hc
    refine lv_iconst (v := 0) C.1 C.2.1 dX4_kindAt_21 (by decide) ?_
    exact fin_i C hw (Option.some.inj hf) (fun o => o) (fun o => (rO G ar ab at_ r_ar ++ (bO G ab b_ab ++ []))) rfl rfl dX4_kindAt_22
  · replace hf := ifn hf hc
    refine r_iload0 C hl 1 rfl dX4_kindAt_4 ?_
    refine r_aload0 C hl 0 rfl dX4_kindAt_5 ?_
    refine r_get C hw _ (gx_h rO_o) 1 fl_X4_28 rfl dX4_kindAt_6 ?_
    refine lv_icmp_ge (tgt := 21) C.1 C.2.1 dX4_kindAt_9 (by decide) (fun hc => ?_) (fun hc => ?_)
    · replace hf := ifp hf hc
      refine lv_iconst (v := 0) C.1 C.2.1 dX4_kindAt_21 (by decide) ?_
      exact fin_i C hw (Option.some.inj hf) (fun o => o) (fun o => (rO G ar ab at_ r_ar ++ (bO G ab b_ab ++ []))) rfl rfl dX4_kindAt_22
    · replace hf := ifn hf hc
      refine r_iload0 C hl 1 rfl dX4_kindAt_12 ?_
      refine r_aload0 C hl 0 rfl dX4_kindAt_13 ?_
      refine r_get C hw _ (gx_h rO_o) 0 fl_X4_9 rfl dX4_kindAt_14 ?_
      refine r_alen C hw _ (gx_t (gx_h bO_g0)) (v := 900) (show Int32.ofNat 900 = 900 from by decide) dX4_kindAt_17 ?_
      refine lv_icmp_lt (tgt := 23) C.1 C.2.1 dX4_kindAt_18 (by decide) (fun hc => ?_) (fun hc => ?_)
      · replace hf := ifp hf hc
        refine r_aload0 C hl 0 rfl dX4_kindAt_23 ?_
        refine r_get C hw _ (gx_h rO_o) 0 fl_X4_9 rfl dX4_kindAt_24 ?_
        refine r_iload0 C hl 1 rfl dX4_kindAt_27 ?_
        obtain ⟨v1_, e1, hf⟩ := bx hf
        refine r_iald C hw _ (gx_t (gx_h bO_g0)) e1 dX4_kindAt_28 ?_
        refine r_istore0 C hl [(2, .int v1_), (0, .ref (ar 99)), (1, .int x1)] (by decide) rfl dX4_kindAt_29 (fun ls hl => ?_)
        refine r_iload0 C hl 0 rfl dX4_kindAt_30 ?_
        refine lv_bipush (v := 97) C.1 C.2.1 dX4_kindAt_31 (by decide) ?_
        refine lv_icmp_lt (tgt := 44) C.1 C.2.1 dX4_kindAt_33 (by decide) (fun hc => ?_) (fun hc => ?_)
        · replace hf := ifp hf hc
          exact hB_44  v1_ hf _ _ hw _ (lv_sub hl [0] rfl)
        · replace hf := ifn hf hc
          refine r_iload0 C hl 0 rfl dX4_kindAt_36 ?_
          refine lv_bipush (v := 122) C.1 C.2.1 dX4_kindAt_37 (by decide) ?_
          refine lv_icmp_gt (tgt := 44) C.1 C.2.1 dX4_kindAt_39 (by decide) (fun hc => ?_) (fun hc => ?_)
          · replace hf := ifp hf hc
            exact hB_44  v1_ hf _ _ hw _ (lv_sub hl [0] rfl)
          · replace hf := ifn hf hc
            refine lv_iconst (v := 1) C.1 C.2.1 dX4_kindAt_42 (by decide) ?_
            exact fin_i C hw (Option.some.inj hf) (fun o => o) (fun o => (rO G ar ab at_ r_ar ++ (bO G ab b_ab ++ []))) rfl rfl dX4_kindAt_43
      · replace hf := ifn hf hc
        refine lv_iconst (v := 0) C.1 C.2.1 dX4_kindAt_21 (by decide) ?_
        exact fin_i C hw (Option.some.inj hf) (fun o => o) (fun o => (rO G ar ab at_ r_ar ++ (bO G ab b_ab ++ []))) rfl rfl dX4_kindAt_22
set_option maxHeartbeats 4000000 in
set_option maxRecDepth 100000 in
theorem c_X4_byteAt (l : Launch) (G : GG) (ar : Nat → Nat) (ab : Nat → Nat) (at_ : Nat → Nat) (sz : Nat) (r_ar : Pic) (b_ab : Pic) (x1 : Int32) (out : Int32) (hf : f_X4_byteAt r_ar b_ab x1 = some out) : Met l yX4_byteAt (.code yX4_byteAt cX4_byteAt 2 (some .int) :: BT) ({ frames := 0, cells := 0, slots := 0, locals := 0 }) (va_Pc [.ref (ar 99), .int x1] (PreW G sz (rO G ar ab at_ r_ar ++ (bO G ab b_ab ++ [])))) (Ans G out (va_A (rO G ar ab at_ r_ar ++ (bO G ab b_ab ++ [])) sz) (rO G ar ab at_ r_ar ++ (bO G ab b_ab ++ []))) 0 0 (va_A (rO G ar ab at_ r_ar ++ (bO G ab b_ab ++ [])) sz) := by
  refine Met.into (by decide) (Nat.le_of_ble_eq_true rfl) ?_
  intro p e s m below meth c C hsz ls hl hw
  have hl : lv_has ls 2 [(0, .ref (ar 99)), (1, .int x1)] := hl
  clear hsz
  generalize va_A (rO G ar ab at_ r_ar ++ (bO G ab b_ab ++ [])) sz = A at hw ⊢
  unfold f_X4_byteAt at hf
  refine r_iload0 C hl 1 rfl dX4_byteAt_0 ?_
  refine lv_if_lt (tgt := 22) C.1 C.2.1 dX4_byteAt_1 (by decide) (fun hc => ?_) (fun hc => ?_)
  · replace hf := ifp hf hc
    refine lv_iconst (v := (-1)) C.1 C.2.1 dX4_byteAt_22 (by decide) ?_
    exact fin_i C hw (Option.some.inj hf) (fun o => o) (fun o => (rO G ar ab at_ r_ar ++ (bO G ab b_ab ++ []))) rfl rfl dX4_byteAt_23
  · replace hf := ifn hf hc
    refine r_iload0 C hl 1 rfl dX4_byteAt_4 ?_
    refine r_aload0 C hl 0 rfl dX4_byteAt_5 ?_
    refine r_get C hw _ (gx_h rO_o) 0 fl_X4_9 rfl dX4_byteAt_6 ?_
    refine r_alen C hw _ (gx_t (gx_h bO_g0)) (v := 900) (show Int32.ofNat 900 = 900 from by decide) dX4_byteAt_9 ?_
    refine lv_icmp_ge (tgt := 22) C.1 C.2.1 dX4_byteAt_10 (by decide) (fun hc => ?_) (fun hc => ?_)
    · replace hf := ifp hf hc
      refine lv_iconst (v := (-1)) C.1 C.2.1 dX4_byteAt_22 (by decide) ?_
      exact fin_i C hw (Option.some.inj hf) (fun o => o) (fun o => (rO G ar ab at_ r_ar ++ (bO G ab b_ab ++ []))) rfl rfl dX4_byteAt_23
    · replace hf := ifn hf hc
      refine r_aload0 C hl 0 rfl dX4_byteAt_13 ?_
      refine r_get C hw _ (gx_h rO_o) 0 fl_X4_9 rfl dX4_byteAt_14 ?_
      refine r_iload0 C hl 1 rfl dX4_byteAt_17 ?_
      obtain ⟨v1_, e1, hf⟩ := bx hf
      refine r_iald C hw _ (gx_t (gx_h bO_g0)) e1 dX4_byteAt_18 ?_
      refine lv_goto (tgt := 23) C.1 C.2.1 dX4_byteAt_19 (by decide) ?_
      exact fin_i C hw (Option.some.inj hf) (fun o => o) (fun o => (rO G ar ab at_ r_ar ++ (bO G ab b_ab ++ []))) rfl rfl dX4_byteAt_23
set_option maxHeartbeats 4000000 in
set_option maxRecDepth 100000 in
theorem c_X4_mayCome (l : Launch) (G : GG) (ar : Nat → Nat) (ab : Nat → Nat) (at_ : Nat → Nat) (sz : Nat) (r_ar : Pic) (x1 : Int32) (x2 : Int32) (out : Int32 × Pic) (hf : f_X4_mayCome r_ar x1 x2 = some out) : Met l yX4_mayCome (.code yX4_mayCome cX4_mayCome 3 (some .boolean) :: BT) ({ frames := 1, cells := 0, slots := 0, locals := 21 }) (va_Pc [.ref (ar 99), .int x1, .int x2] (PreW G sz (rO G ar ab at_ r_ar ++ []))) (Ans G out.1 (va_A (rO G ar ab at_ r_ar ++ []) sz) (rO G ar ab at_ out.2 ++ [])) 0 0 (va_A (rO G ar ab at_ r_ar ++ []) sz) := by
  refine Met.into (by decide) (Nat.le_of_ble_eq_true rfl) ?_
  intro p e s m below meth c C hsz ls hl hw
  have hl : lv_has ls 3 [(0, .ref (ar 99)), (1, .int x1), (2, .int x2)] := hl
  clear hsz
  generalize va_A (rO G ar ab at_ r_ar ++ []) sz = A at hw ⊢
  unfold f_X4_mayCome at hf
  refine r_iload0 C hl 1 rfl dX4_mayCome_0 ?_
  refine r_iload0 C hl 2 rfl dX4_mayCome_1 ?_
  refine lv_icmp_lt (tgt := 11) C.1 C.2.1 dX4_mayCome_2 (by decide) (fun hc => ?_) (fun hc => ?_)
  · replace hf := ifp hf hc
    refine r_aload0 C hl 0 rfl dX4_mayCome_11 ?_
    refine r_get C hw _ (gx_h rO_o) 5 fl_X4_38 rfl dX4_mayCome_12 ?_
    refine lv_if_ne (tgt := 26) C.1 C.2.1 dX4_mayCome_15 (by decide) (fun hc => ?_) (fun hc => ?_)
    · replace hf := ifn hf hc
      refine lv_iconst (v := 1) C.1 C.2.1 dX4_mayCome_26 (by decide) ?_
      refine lv_goto (tgt := 31) C.1 C.2.1 dX4_mayCome_27 (by decide) ?_
      exact fin_z C hw (by decide) (Option.some.inj hf) (fun o => o.1) (fun o => (rO G ar ab at_ o.2 ++ [])) rfl rfl dX4_mayCome_31
    · replace hf := ifp hf hc
      refine r_aload0 C hl 0 rfl dX4_mayCome_18 ?_
      refine lv_iconst (v := 5) C.1 C.2.1 dX4_mayCome_19 (by decide) ?_
      obtain ⟨u1, e1, hf⟩ := bx hf
      refine r_callVi (ws' := (rO G ar ab at_ u1.2 ++ [])) (As := [.int 5]) (rest := []) C hw hl.1 kX4_fail ml_X4_64 (c_X4_fail l G ar ab at_ _ r_ar 5 u1 e1) (CutX.take rO_f2 CutX.none) _ (gx_h rO_o) rfl ⟨rfl, rfl⟩ ⟨Nat.le_of_ble_eq_true rfl, Nat.le_of_ble_eq_true rfl⟩ rfl ⟨Nat.zero_le _, Nat.zero_le _⟩ rfl (Nat.le_of_ble_eq_true rfl) dX4_mayCome_20 (fun H locs hw => ?_)
      refine lv_if_eq (tgt := 30) C.1 C.2.1 dX4_mayCome_23 (by decide) (fun hc => ?_) (fun hc => ?_)
      · replace hf := ifp hf hc
        refine lv_iconst (v := 0) C.1 C.2.1 dX4_mayCome_30 (by decide) ?_
        exact fin_z C hw (by decide) (Option.some.inj hf) (fun o => o.1) (fun o => (rO G ar ab at_ o.2 ++ [])) rfl rfl dX4_mayCome_31
      · replace hf := ifn hf hc
        refine lv_iconst (v := 1) C.1 C.2.1 dX4_mayCome_26 (by decide) ?_
        refine lv_goto (tgt := 31) C.1 C.2.1 dX4_mayCome_27 (by decide) ?_
        exact fin_z C hw (by decide) (Option.some.inj hf) (fun o => o.1) (fun o => (rO G ar ab at_ o.2 ++ [])) rfl rfl dX4_mayCome_31
  · replace hf := ifn hf hc
    refine r_aload0 C hl 0 rfl dX4_mayCome_5 ?_
    refine lv_iconst (v := 4) C.1 C.2.1 dX4_mayCome_6 (by decide) ?_
    obtain ⟨u2, e2, hf⟩ := bx hf
    refine r_callVi (ws' := (rO G ar ab at_ u2.2 ++ [])) (As := [.int 4]) (rest := []) C hw hl.1 kX4_fail ml_X4_64 (c_X4_fail l G ar ab at_ _ r_ar 4 u2 e2) (CutX.take rO_f2 CutX.none) _ (gx_h rO_o) rfl ⟨rfl, rfl⟩ ⟨Nat.le_of_ble_eq_true rfl, Nat.le_of_ble_eq_true rfl⟩ rfl ⟨Nat.zero_le _, Nat.zero_le _⟩ rfl (Nat.le_of_ble_eq_true rfl) dX4_mayCome_7 (fun H locs hw => ?_)
    obtain ⟨z3_, e3, hf⟩ := bx hf
    obtain rfl := okZ_in e3
    exact fin_z C hw e3 (Option.some.inj hf) (fun o => o.1) (fun o => (rO G ar ab at_ o.2 ++ [])) rfl rfl dX4_mayCome_10
set_option maxHeartbeats 4000000 in
set_option maxRecDepth 100000 in
theorem c_X4_isWord (l : Launch) (G : GG) (K : SK) (ar : Nat → Nat) (ab : Nat → Nat) (at_ : Nat → Nat) (sz : Nat) (r_ar : Pic) (b_ab : Pic) (w1 : Nat) (hi_w1 : w1 < 9) (out : Int32) (hf : f_X4_isWord r_ar b_ab w1 = some out) : Met l yX4_isWord (.code yX4_isWord cX4_isWord 3 (some .boolean) :: BT) ({ frames := 4, cells := 0, slots := 0, locals := 85 }) (va_Pc [.ref (ar 99), .ref (K.1 w1)] (PreT G K sz (rO G ar ab at_ r_ar ++ (bO G ab b_ab ++ [])))) (Ans G out (va_A (rO G ar ab at_ r_ar ++ (bO G ab b_ab ++ [])) sz) (rO G ar ab at_ r_ar ++ (bO G ab b_ab ++ []))) 0 0 (va_A (rO G ar ab at_ r_ar ++ (bO G ab b_ab ++ [])) sz) := by
  refine Met.intoT (by decide) (Nat.le_of_ble_eq_true rfl) ?_
  intro p e s m below meth c C hsz hq ls hl hw
  have hl : lv_has ls 3 [(0, .ref (ar 99)), (1, .ref (K.1 w1))] := hl
  clear hsz
  generalize va_A (rO G ar ab at_ r_ar ++ (bO G ab b_ab ++ [])) sz = A at hw hq ⊢
  have hB_28 : ∀ (k28 : Int32 → Option (Int32)) (hk28 : ∀ (v2 : Int32), k28 v2 = some out → ∀ (H : Heap) (locs : List Loc), Wd G A s H locs (rO G ar ab at_ r_ar ++ (bO G ab b_ab ++ [])) → ∀ ls : Array Slot, lv_has ls 3 [(0, .ref (ar 99)), (1, .ref (K.1 w1)), (2, .int v2)] → W p l e ({ frames := 4, cells := 0, slots := 0, locals := 85 }) s m [.ref (ar 99), .ref (K.1 w1)].toArray below meth c H locs 0 0 (MQ below (Ans G out A (rO G ar ab at_ r_ar ++ (bO G ab b_ab ++ []))) [.ref (ar 99), .ref (K.1 w1)].toArray s 0 0 A) (F0 m 28 ls [])), ∀ (v2 : Int32), b_X4_isWord_28 r_ar b_ab w1 k28 v2 = some out → ∀ (H : Heap) (locs : List Loc), Wd G A s H locs (rO G ar ab at_ r_ar ++ (bO G ab b_ab ++ [])) → ∀ ls : Array Slot, lv_has ls 3 [(0, .ref (ar 99)), (1, .ref (K.1 w1)), (2, .int v2)] → W p l e ({ frames := 4, cells := 0, slots := 0, locals := 85 }) s m [.ref (ar 99), .ref (K.1 w1)].toArray below meth c H locs 0 0 (MQ below (Ans G out A (rO G ar ab at_ r_ar ++ (bO G ab b_ab ++ []))) [.ref (ar 99), .ref (K.1 w1)].toArray s 0 0 A) (F0 m 28 ls []) := by
    intro k28 hk28 v2 hf H locs hw ls hl
    unfold b_X4_isWord_28 at hf
    refine r_iload0 C hl 2 rfl dX4_isWord_28 ?_
    refine r_aload0 C hl 1 rfl dX4_isWord_29 ?_
    refine g_callVi (ws' := (rO G ar ab at_ r_ar ++ (bO G ab b_ab ++ []))) (As := []) (rest := [.int v2]) C hw hl.1 kJ0_length_8abf5 ml_X4_145 (c_length l G K _ w1 hi_w1) blindT CutX.none (fun hf U hU hW hp => ⟨hp, hq.pass hw.2.2.2.1 hf hU hW⟩) (vk_recv hq.1 hi_w1 hw.2.2.2.1) ⟨rfl, rfl⟩ ⟨Nat.le_of_ble_eq_true rfl, Nat.le_of_ble_eq_true rfl⟩ rfl ⟨Nat.zero_le _, Nat.zero_le _⟩ rfl (Nat.le_of_ble_eq_true rfl) dX4_isWord_30 (fun H locs hw => ?_)
    refine lv_icmp_ge (tgt := 62) C.1 C.2.1 dX4_isWord_33 (by decide) (fun hc => ?_) (fun hc => ?_)
    · replace hf := ifp hf hc
      refine lv_iconst (v := 1) C.1 C.2.1 dX4_isWord_62 (by decide) ?_
      exact fin_z C hw (by decide) (Option.some.inj hf) (fun o => o) (fun o => (rO G ar ab at_ r_ar ++ (bO G ab b_ab ++ []))) rfl rfl dX4_isWord_63
    · replace hf := ifn hf hc
      refine r_aload0 C hl 0 rfl dX4_isWord_36 ?_
      refine r_aload0 C hl 0 rfl dX4_isWord_37 ?_
      refine r_get C hw _ (gx_h rO_o) 3 fl_X4_131 rfl dX4_isWord_38 ?_
      refine r_iload0 C hl 2 rfl dX4_isWord_41 ?_
      refine lv_iadd C.1 C.2.1 dX4_isWord_42 ?_
      obtain ⟨u3, e3, hf⟩ := bx hf
      refine r_callVi (ws' := (rO G ar ab at_ r_ar ++ (bO G ab b_ab ++ []))) (As := [.int ((gS r_ar 3) + v2)]) (rest := []) C hw hl.1 kX4_byteAt ml_X4_142 (c_X4_byteAt l G ar ab at_ _ r_ar b_ab ((gS r_ar 3) + v2) u3 e3) (CutX.take rO_f2 (CutX.take bO_f CutX.none)) _ (gx_h rO_o) rfl ⟨rfl, rfl⟩ ⟨Nat.le_of_ble_eq_true rfl, Nat.le_of_ble_eq_true rfl⟩ rfl ⟨Nat.zero_le _, Nat.zero_le _⟩ rfl (Nat.le_of_ble_eq_true rfl) dX4_isWord_43 (fun H locs hw => ?_)
      refine r_aload0 C hl 1 rfl dX4_isWord_46 ?_
      refine r_iload0 C hl 2 rfl dX4_isWord_47 ?_
      obtain ⟨v4_, e4, hf⟩ := bx hf
      refine g_callVi (ws' := (rO G ar ab at_ r_ar ++ (bO G ab b_ab ++ []))) (As := [.int v2]) (rest := [.int u3]) C hw hl.1 kJ0_charAt_5068e ml_X4_150 (c_charAt l G K _ w1 hi_w1 v2 v4_ e4) blindT CutX.none (fun hf U hU hW hp => ⟨hp, hq.pass hw.2.2.2.1 hf hU hW⟩) (vk_recv hq.1 hi_w1 hw.2.2.2.1) ⟨rfl, rfl⟩ ⟨Nat.le_of_ble_eq_true rfl, Nat.le_of_ble_eq_true rfl⟩ rfl ⟨Nat.zero_le _, Nat.zero_le _⟩ rfl (Nat.le_of_ble_eq_true rfl) dX4_isWord_48 (fun H locs hw => ?_)
      refine lv_icmp_eq (tgt := 56) C.1 C.2.1 dX4_isWord_51 (by decide) (fun hc => ?_) (fun hc => ?_)
      · replace hf := ifp hf hc
        refine r_iinc C hl 2 (v2 + 1) [(2, .int (v2 + 1)), (0, .ref (ar 99)), (1, .ref (K.1 w1))] rfl (iinc_e (by decide)) (by decide) rfl dX4_isWord_56 (fun ls hl => ?_)
        refine lv_goto (tgt := 28) C.1 C.2.1 dX4_isWord_59 (by decide) ?_
        exact hk28 (v2 + 1) hf _ _ hw _ (lv_sub hl [1, 2, 0] rfl)
      · replace hf := ifn hf hc
        refine lv_iconst (v := 0) C.1 C.2.1 dX4_isWord_54 (by decide) ?_
        exact fin_z C hw (by decide) (Option.some.inj hf) (fun o => o) (fun o => (rO G ar ab at_ r_ar ++ (bO G ab b_ab ++ []))) rfl rfl dX4_isWord_55
  have hL_28 : ∀ n : Nat, ∀ (v2 : Int32), L_X4_isWord_28 r_ar b_ab w1  n v2 = some out → ∀ (H : Heap) (locs : List Loc), Wd G A s H locs (rO G ar ab at_ r_ar ++ (bO G ab b_ab ++ [])) → ∀ ls : Array Slot, lv_has ls 3 [(0, .ref (ar 99)), (1, .ref (K.1 w1)), (2, .int v2)] → W p l e ({ frames := 4, cells := 0, slots := 0, locals := 85 }) s m [.ref (ar 99), .ref (K.1 w1)].toArray below meth c H locs 0 0 (MQ below (Ans G out A (rO G ar ab at_ r_ar ++ (bO G ab b_ab ++ []))) [.ref (ar 99), .ref (K.1 w1)].toArray s 0 0 A) (F0 m 28 ls []) := by
    intro  n
    induction n with
    | zero => intro v2 hf; cases hf
    | succ n ih => exact hB_28 _ ih
  unfold f_X4_isWord at hf
  refine r_aload0 C hl 0 rfl dX4_isWord_0 ?_
  refine r_get C hw _ (gx_h rO_o) 4 fl_X4_52 rfl dX4_isWord_1 ?_
  refine lv_iconst (v := 1) C.1 C.2.1 dX4_isWord_4 (by decide) ?_
  refine lv_icmp_ne (tgt := 24) C.1 C.2.1 dX4_isWord_5 (by decide) (fun hc => ?_) (fun hc => ?_)
  · replace hf := ifn hf hc
    refine lv_iconst (v := 0) C.1 C.2.1 dX4_isWord_24 (by decide) ?_
    exact fin_z C hw (by decide) (Option.some.inj hf) (fun o => o) (fun o => (rO G ar ab at_ r_ar ++ (bO G ab b_ab ++ []))) rfl rfl dX4_isWord_25
  · replace hf := ifp hf hc
    refine r_aload0 C hl 0 rfl dX4_isWord_8 ?_
    refine r_get C hw _ (gx_h rO_o) 2 fl_X4_35 rfl dX4_isWord_9 ?_
    refine r_aload0 C hl 0 rfl dX4_isWord_12 ?_
    refine r_get C hw _ (gx_h rO_o) 3 fl_X4_131 rfl dX4_isWord_13 ?_
    refine lv_isub C.1 C.2.1 dX4_isWord_16 ?_
    refine r_aload0 C hl 1 rfl dX4_isWord_17 ?_
    refine g_callVi (ws' := (rO G ar ab at_ r_ar ++ (bO G ab b_ab ++ []))) (As := []) (rest := [.int ((gS r_ar 2) - (gS r_ar 3))]) C hw hl.1 kJ0_length_8abf5 ml_X4_145 (c_length l G K _ w1 hi_w1) blindT CutX.none (fun hf U hU hW hp => ⟨hp, hq.pass hw.2.2.2.1 hf hU hW⟩) (vk_recv hq.1 hi_w1 hw.2.2.2.1) ⟨rfl, rfl⟩ ⟨Nat.le_of_ble_eq_true rfl, Nat.le_of_ble_eq_true rfl⟩ rfl ⟨Nat.zero_le _, Nat.zero_le _⟩ rfl (Nat.le_of_ble_eq_true rfl) dX4_isWord_18 (fun H locs hw => ?_)
    refine lv_icmp_eq (tgt := 26) C.1 C.2.1 dX4_isWord_21 (by decide) (fun hc => ?_) (fun hc => ?_)
    · replace hf := ifp hf hc
      refine lv_iconst (v := 0) C.1 C.2.1 dX4_isWord_26 (by decide) ?_
      refine r_istore0 C hl [(2, .int 0), (0, .ref (ar 99)), (1, .ref (K.1 w1))] (by decide) rfl dX4_isWord_27 (fun ls hl => ?_)
      exact hL_28  FU 0 hf _ _ hw _ (lv_sub hl [1, 2, 0] rfl)
    · replace hf := ifn hf hc
      refine lv_iconst (v := 0) C.1 C.2.1 dX4_isWord_24 (by decide) ?_
      exact fin_z C hw (by decide) (Option.some.inj hf) (fun o => o) (fun o => (rO G ar ab at_ r_ar ++ (bO G ab b_ab ++ []))) rfl rfl dX4_isWord_25
set_option maxHeartbeats 4000000 in
set_option maxRecDepth 100000 in
theorem c_X4_advance (l : Launch) (G : GG) (ar : Nat → Nat) (ab : Nat → Nat) (at_ : Nat → Nat) (sz : Nat) (r_ar : Pic) (b_ab : Pic)  (out : Pic) (hf : f_X4_advance r_ar b_ab = some out) : Met l yX4_advance (.code yX4_advance cX4_advance 2 none :: BT) ({ frames := 1, cells := 0, slots := 0, locals := 22 }) (va_Pc [.ref (ar 99)] (PreW G sz (rO G ar ab at_ r_ar ++ (bO G ab b_ab ++ [])))) (Don G (va_A (rO G ar ab at_ r_ar ++ (bO G ab b_ab ++ [])) sz) (rO G ar ab at_ out ++ (bO G ab b_ab ++ []))) 0 0 (va_A (rO G ar ab at_ r_ar ++ (bO G ab b_ab ++ [])) sz) := by
  refine Met.into (by decide) (Nat.le_of_ble_eq_true rfl) ?_
  intro p e s m below meth c C hsz ls hl hw
  have hl : lv_has ls 2 [(0, .ref (ar 99))] := hl
  clear hsz
  generalize va_A (rO G ar ab at_ r_ar ++ (bO G ab b_ab ++ [])) sz = A at hw ⊢
  have hB_159 : ∀ (r_ar : Pic) (t0 : Int32) (t1 : Int32), b_X4_advance_159 b_ab  r_ar t0 t1 = some out → ∀ (H : Heap) (locs : List Loc), Wd G A s H locs (rO G ar ab at_ r_ar ++ (bO G ab b_ab ++ [])) → ∀ ls : Array Slot, lv_has ls 2 [(0, .ref (ar 99))] → W p l e ({ frames := 1, cells := 0, slots := 0, locals := 22 }) s m [.ref (ar 99)].toArray below meth c H locs 0 0 (MQ below (Don G A (rO G ar ab at_ out ++ (bO G ab b_ab ++ []))) [.ref (ar 99)].toArray s 0 0 A) (F0 m 159 ls [.int t0, .int t1]) := by
    intro r_ar t0 t1 hf H locs hw ls hl
    unfold b_X4_advance_159 at hf
    refine lv_icmp_le (tgt := 168) C.1 C.2.1 dX4_advance_159 (by decide) (fun hc => ?_) (fun hc => ?_)
    · replace hf := ifp hf hc
      exact fin_v C hw (Option.some.inj hf) (fun o => (rO G ar ab at_ o ++ (bO G ab b_ab ++ []))) rfl dX4_advance_168
    · replace hf := ifn hf hc
      refine r_aload0 C hl 0 rfl dX4_advance_162 ?_
      refine lv_bipush (v := 6) C.1 C.2.1 dX4_advance_163 (by decide) ?_
      obtain ⟨r_ar4, e4, hf⟩ := bx hf
      refine r_put C hw _ (gx_h rO_o) 4 fp_X4_52 rfl rfl (Nat.le_of_ble_eq_true rfl) (rO G ar ab at_ r_ar4 ++ (bO G ab b_ab ++ [])) (sx_h rO_o (rO_p4 e4)) dX4_advance_165 (fun H locs hw => ?_)
      exact fin_v C hw (Option.some.inj hf) (fun o => (rO G ar ab at_ o ++ (bO G ab b_ab ++ []))) rfl dX4_advance_168
  have hB_132 : ∀ (r_ar : Pic) (v1 : Int32), b_X4_advance_132 b_ab  r_ar v1 = some out → ∀ (H : Heap) (locs : List Loc), Wd G A s H locs (rO G ar ab at_ r_ar ++ (bO G ab b_ab ++ [])) → ∀ ls : Array Slot, lv_has ls 2 [(0, .ref (ar 99)), (1, .int v1)] → W p l e ({ frames := 1, cells := 0, slots := 0, locals := 22 }) s m [.ref (ar 99)].toArray below meth c H locs 0 0 (MQ below (Don G A (rO G ar ab at_ out ++ (bO G ab b_ab ++ []))) [.ref (ar 99)].toArray s 0 0 A) (F0 m 132 ls []) := by
    intro r_ar v1 hf H locs hw ls hl
    unfold b_X4_advance_132 at hf
    refine r_iload0 C hl 1 rfl dX4_advance_132 ?_
    refine lv_if_eq (tgt := 168) C.1 C.2.1 dX4_advance_133 (by decide) (fun hc => ?_) (fun hc => ?_)
    · replace hf := ifp hf hc
      exact fin_v C hw (Option.some.inj hf) (fun o => (rO G ar ab at_ o ++ (bO G ab b_ab ++ []))) rfl dX4_advance_168
    · replace hf := ifn hf hc
      refine r_aload0 C hl 0 rfl dX4_advance_136 ?_
      refine r_get C hw _ (gx_h rO_o) 2 fl_X4_35 rfl dX4_advance_137 ?_
      refine r_aload0 C hl 0 rfl dX4_advance_140 ?_
      refine r_get C hw _ (gx_h rO_o) 3 fl_X4_131 rfl dX4_advance_141 ?_
      refine lv_isub C.1 C.2.1 dX4_advance_144 ?_
      refine r_aload0 C hl 0 rfl dX4_advance_145 ?_
      refine r_get C hw _ (gx_h rO_o) 4 fl_X4_52 rfl dX4_advance_146 ?_
      refine lv_iconst (v := 1) C.1 C.2.1 dX4_advance_149 (by decide) ?_
      refine lv_icmp_ne (tgt := 158) C.1 C.2.1 dX4_advance_150 (by decide) (fun hc => ?_) (fun hc => ?_)
      · replace hf := ifn hf hc
        refine lv_iconst (v := 3) C.1 C.2.1 dX4_advance_158 (by decide) ?_
        exact hB_159  r_ar 3 ((gS r_ar 2) - (gS r_ar 3)) hf _ _ hw _ (lv_sub hl [0] rfl)
      · replace hf := ifp hf hc
        refine lv_bipush (v := 6) C.1 C.2.1 dX4_advance_153 (by decide) ?_
        refine lv_goto (tgt := 159) C.1 C.2.1 dX4_advance_155 (by decide) ?_
        exact hB_159  r_ar 6 ((gS r_ar 2) - (gS r_ar 3)) hf _ _ hw _ (lv_sub hl [0] rfl)
  have hB_119 : ∀ (k78 : Pic → Int32 → Option (Pic)) (hk78 : ∀ (r_ar : Pic) (v1 : Int32), k78 r_ar v1 = some out → ∀ (H : Heap) (locs : List Loc), Wd G A s H locs (rO G ar ab at_ r_ar ++ (bO G ab b_ab ++ [])) → ∀ ls : Array Slot, lv_has ls 2 [(0, .ref (ar 99)), (1, .int v1)] → W p l e ({ frames := 1, cells := 0, slots := 0, locals := 22 }) s m [.ref (ar 99)].toArray below meth c H locs 0 0 (MQ below (Don G A (rO G ar ab at_ out ++ (bO G ab b_ab ++ []))) [.ref (ar 99)].toArray s 0 0 A) (F0 m 78 ls [])), ∀ (r_ar : Pic) (v1 : Int32), b_X4_advance_119 b_ab k78 r_ar v1 = some out → ∀ (H : Heap) (locs : List Loc), Wd G A s H locs (rO G ar ab at_ r_ar ++ (bO G ab b_ab ++ [])) → ∀ ls : Array Slot, lv_has ls 2 [(0, .ref (ar 99)), (1, .int v1)] → W p l e ({ frames := 1, cells := 0, slots := 0, locals := 22 }) s m [.ref (ar 99)].toArray below meth c H locs 0 0 (MQ below (Don G A (rO G ar ab at_ out ++ (bO G ab b_ab ++ []))) [.ref (ar 99)].toArray s 0 0 A) (F0 m 119 ls []) := by
    intro k78 hk78 r_ar v1 hf H locs hw ls hl
    unfold b_X4_advance_119 at hf
    refine r_aload0 C hl 0 rfl dX4_advance_119 ?_
    refine lv_dup C.1 C.2.1 dX4_advance_120 rfl ?_
    refine r_get C hw _ (gx_h rO_o) 2 fl_X4_35 rfl dX4_advance_121 ?_
    refine lv_iconst (v := 1) C.1 C.2.1 dX4_advance_124 (by decide) ?_
    refine lv_iadd C.1 C.2.1 dX4_advance_125 ?_
    obtain ⟨r_ar5, e5, hf⟩ := bx hf
    refine r_put C hw _ (gx_h rO_o) 2 fp_X4_35 rfl rfl (Nat.le_of_ble_eq_true rfl) (rO G ar ab at_ r_ar5 ++ (bO G ab b_ab ++ [])) (sx_h rO_o (rO_p2 e5)) dX4_advance_126 (fun H locs hw => ?_)
    refine lv_goto (tgt := 78) C.1 C.2.1 dX4_advance_129 (by decide) ?_
    exact hk78 r_ar5 v1 hf _ _ hw _ (lv_sub hl [0, 1] rfl)
  have hB_78 : ∀ (k78 : Pic → Int32 → Option (Pic)) (hk78 : ∀ (r_ar : Pic) (v1 : Int32), k78 r_ar v1 = some out → ∀ (H : Heap) (locs : List Loc), Wd G A s H locs (rO G ar ab at_ r_ar ++ (bO G ab b_ab ++ [])) → ∀ ls : Array Slot, lv_has ls 2 [(0, .ref (ar 99)), (1, .int v1)] → W p l e ({ frames := 1, cells := 0, slots := 0, locals := 22 }) s m [.ref (ar 99)].toArray below meth c H locs 0 0 (MQ below (Don G A (rO G ar ab at_ out ++ (bO G ab b_ab ++ []))) [.ref (ar 99)].toArray s 0 0 A) (F0 m 78 ls [])), ∀ (r_ar : Pic) (v1 : Int32), b_X4_advance_78 b_ab k78 r_ar v1 = some out → ∀ (H : Heap) (locs : List Loc), Wd G A s H locs (rO G ar ab at_ r_ar ++ (bO G ab b_ab ++ [])) → ∀ ls : Array Slot, lv_has ls 2 [(0, .ref (ar 99)), (1, .int v1)] → W p l e ({ frames := 1, cells := 0, slots := 0, locals := 22 }) s m [.ref (ar 99)].toArray below meth c H locs 0 0 (MQ below (Don G A (rO G ar ab at_ out ++ (bO G ab b_ab ++ []))) [.ref (ar 99)].toArray s 0 0 A) (F0 m 78 ls []) := by
    intro k78 hk78 r_ar v1 hf H locs hw ls hl
    unfold b_X4_advance_78 at hf
    refine r_aload0 C hl 0 rfl dX4_advance_78 ?_
    refine r_get C hw _ (gx_h rO_o) 2 fl_X4_35 rfl dX4_advance_79 ?_
    refine r_aload0 C hl 0 rfl dX4_advance_82 ?_
    refine r_get C hw _ (gx_h rO_o) 1 fl_X4_28 rfl dX4_advance_83 ?_
    refine lv_icmp_ge (tgt := 132) C.1 C.2.1 dX4_advance_86 (by decide) (fun hc => ?_) (fun hc => ?_)
    · replace hf := ifp hf hc
      exact hB_132  r_ar v1 hf _ _ hw _ (lv_sub hl [0, 1] rfl)
    · replace hf := ifn hf hc
      refine r_aload0 C hl 0 rfl dX4_advance_89 ?_
      refine r_get C hw _ (gx_h rO_o) 2 fl_X4_35 rfl dX4_advance_90 ?_
      refine r_aload0 C hl 0 rfl dX4_advance_93 ?_
      refine r_get C hw _ (gx_h rO_o) 3 fl_X4_131 rfl dX4_advance_94 ?_
      refine lv_icmp_eq (tgt := 119) C.1 C.2.1 dX4_advance_97 (by decide) (fun hc => ?_) (fun hc => ?_)
      · replace hf := ifp hf hc
        exact hB_119 k78 hk78 r_ar v1 hf _ _ hw _ (lv_sub hl [0, 1] rfl)
      · replace hf := ifn hf hc
        refine r_iload0 C hl 1 rfl dX4_advance_100 ?_
        refine lv_if_eq (tgt := 132) C.1 C.2.1 dX4_advance_101 (by decide) (fun hc => ?_) (fun hc => ?_)
        · replace hf := ifp hf hc
          exact hB_132  r_ar v1 hf _ _ hw _ (lv_sub hl [0, 1] rfl)
        · replace hf := ifn hf hc
          refine r_aload0 C hl 0 rfl dX4_advance_104 ?_
          refine r_aload0 C hl 0 rfl dX4_advance_105 ?_
          refine r_get C hw _ (gx_h rO_o) 2 fl_X4_35 rfl dX4_advance_106 ?_
          obtain ⟨u6, e6, hf⟩ := bx hf
          refine r_callVi (ws' := (rO G ar ab at_ r_ar ++ (bO G ab b_ab ++ []))) (As := [.int (gS r_ar 2)]) (rest := []) C hw hl.1 kX4_kindAt ml_X4_154 (c_X4_kindAt l G ar ab at_ _ r_ar b_ab (gS r_ar 2) u6 e6) (CutX.take rO_f2 (CutX.take bO_f CutX.none)) _ (gx_h rO_o) rfl ⟨rfl, rfl⟩ ⟨Nat.le_of_ble_eq_true rfl, Nat.le_of_ble_eq_true rfl⟩ rfl ⟨Nat.zero_le _, Nat.zero_le _⟩ rfl (Nat.le_of_ble_eq_true rfl) dX4_advance_109 (fun H locs hw => ?_)
          refine r_aload0 C hl 0 rfl dX4_advance_112 ?_
          refine r_get C hw _ (gx_h rO_o) 4 fl_X4_52 rfl dX4_advance_113 ?_
          refine lv_icmp_ne (tgt := 132) C.1 C.2.1 dX4_advance_116 (by decide) (fun hc => ?_) (fun hc => ?_)
          · replace hf := ifn hf hc
            exact hB_132  r_ar v1 hf _ _ hw _ (lv_sub hl [0, 1] rfl)
          · replace hf := ifp hf hc
            exact hB_119 k78 hk78 r_ar v1 hf _ _ hw _ (lv_sub hl [0, 1] rfl)
  have hL_78 : ∀ n : Nat, ∀ (r_ar : Pic) (v1 : Int32), L_X4_advance_78 b_ab  n r_ar v1 = some out → ∀ (H : Heap) (locs : List Loc), Wd G A s H locs (rO G ar ab at_ r_ar ++ (bO G ab b_ab ++ [])) → ∀ ls : Array Slot, lv_has ls 2 [(0, .ref (ar 99)), (1, .int v1)] → W p l e ({ frames := 1, cells := 0, slots := 0, locals := 22 }) s m [.ref (ar 99)].toArray below meth c H locs 0 0 (MQ below (Don G A (rO G ar ab at_ out ++ (bO G ab b_ab ++ []))) [.ref (ar 99)].toArray s 0 0 A) (F0 m 78 ls []) := by
    intro  n
    induction n with
    | zero => intro r_ar v1 hf; cases hf
    | succ n ih => exact hB_78 _ ih
  have hB_36 : ∀ (r_ar : Pic), b_X4_advance_36 b_ab  r_ar = some out → ∀ (H : Heap) (locs : List Loc), Wd G A s H locs (rO G ar ab at_ r_ar ++ (bO G ab b_ab ++ [])) → ∀ ls : Array Slot, lv_has ls 2 [(0, .ref (ar 99))] → W p l e ({ frames := 1, cells := 0, slots := 0, locals := 22 }) s m [.ref (ar 99)].toArray below meth c H locs 0 0 (MQ below (Don G A (rO G ar ab at_ out ++ (bO G ab b_ab ++ []))) [.ref (ar 99)].toArray s 0 0 A) (F0 m 36 ls []) := by
    intro r_ar hf H locs hw ls hl
    unfold b_X4_advance_36 at hf
    refine r_aload0 C hl 0 rfl dX4_advance_36 ?_
    refine r_aload0 C hl 0 rfl dX4_advance_37 ?_
    refine r_get C hw _ (gx_h rO_o) 2 fl_X4_35 rfl dX4_advance_38 ?_
    obtain ⟨r_ar1, e1, hf⟩ := bx hf
    refine r_put C hw _ (gx_h rO_o) 3 fp_X4_131 rfl rfl (Nat.le_of_ble_eq_true rfl) (rO G ar ab at_ r_ar1 ++ (bO G ab b_ab ++ [])) (sx_h rO_o (rO_p3 e1)) dX4_advance_41 (fun H locs hw => ?_)
    refine r_aload0 C hl 0 rfl dX4_advance_44 ?_
    refine r_aload0 C hl 0 rfl dX4_advance_45 ?_
    refine r_aload0 C hl 0 rfl dX4_advance_46 ?_
    refine r_get C hw _ (gx_h rO_o) 2 fl_X4_35 rfl dX4_advance_47 ?_
    obtain ⟨u2, e2, hf⟩ := bx hf
    refine r_callVi (ws' := (rO G ar ab at_ r_ar1 ++ (bO G ab b_ab ++ []))) (As := [.int (gS r_ar1 2)]) (rest := [.ref (ar 99)]) C hw hl.1 kX4_kindAt ml_X4_154 (c_X4_kindAt l G ar ab at_ _ r_ar1 b_ab (gS r_ar1 2) u2 e2) (CutX.take rO_f2 (CutX.take bO_f CutX.none)) _ (gx_h rO_o) rfl ⟨rfl, rfl⟩ ⟨Nat.le_of_ble_eq_true rfl, Nat.le_of_ble_eq_true rfl⟩ rfl ⟨Nat.zero_le _, Nat.zero_le _⟩ rfl (Nat.le_of_ble_eq_true rfl) dX4_advance_50 (fun H locs hw => ?_)
    obtain ⟨r_ar3, e3, hf⟩ := bx hf
    refine r_put C hw _ (gx_h rO_o) 4 fp_X4_52 rfl rfl (Nat.le_of_ble_eq_true rfl) (rO G ar ab at_ r_ar3 ++ (bO G ab b_ab ++ [])) (sx_h rO_o (rO_p4 e3)) dX4_advance_53 (fun H locs hw => ?_)
    refine r_aload0 C hl 0 rfl dX4_advance_56 ?_
    refine r_get C hw _ (gx_h rO_o) 4 fl_X4_52 rfl dX4_advance_57 ?_
    refine lv_iconst (v := 1) C.1 C.2.1 dX4_advance_60 (by decide) ?_
    refine lv_icmp_eq (tgt := 72) C.1 C.2.1 dX4_advance_61 (by decide) (fun hc => ?_) (fun hc => ?_)
    · replace hf := ifp hf hc
      refine lv_iconst (v := 1) C.1 C.2.1 dX4_advance_72 (by decide) ?_
      refine lv_goto (tgt := 77) C.1 C.2.1 dX4_advance_73 (by decide) ?_
      refine r_istore0 C hl [(1, .int 1), (0, .ref (ar 99))] (by decide) rfl dX4_advance_77 (fun ls hl => ?_)
      exact hL_78  FU r_ar3 1 hf _ _ hw _ (lv_sub hl [1, 0] rfl)
    · replace hf := ifn hf hc
      refine r_aload0 C hl 0 rfl dX4_advance_64 ?_
      refine r_get C hw _ (gx_h rO_o) 4 fl_X4_52 rfl dX4_advance_65 ?_
      refine lv_iconst (v := 2) C.1 C.2.1 dX4_advance_68 (by decide) ?_
      refine lv_icmp_ne (tgt := 76) C.1 C.2.1 dX4_advance_69 (by decide) (fun hc => ?_) (fun hc => ?_)
      · replace hf := ifn hf hc
        refine lv_iconst (v := 0) C.1 C.2.1 dX4_advance_76 (by decide) ?_
        refine r_istore0 C hl [(1, .int 0), (0, .ref (ar 99))] (by decide) rfl dX4_advance_77 (fun ls hl => ?_)
        exact hL_78  FU r_ar3 0 hf _ _ hw _ (lv_sub hl [1, 0] rfl)
      · replace hf := ifp hf hc
        refine lv_iconst (v := 1) C.1 C.2.1 dX4_advance_72 (by decide) ?_
        refine lv_goto (tgt := 77) C.1 C.2.1 dX4_advance_73 (by decide) ?_
        refine r_istore0 C hl [(1, .int 1), (0, .ref (ar 99))] (by decide) rfl dX4_advance_77 (fun ls hl => ?_)
        exact hL_78  FU r_ar3 1 hf _ _ hw _ (lv_sub hl [1, 0] rfl)
  have hB_0 : ∀ (k0 : Pic → Option (Pic)) (hk0 : ∀ (r_ar : Pic), k0 r_ar = some out → ∀ (H : Heap) (locs : List Loc), Wd G A s H locs (rO G ar ab at_ r_ar ++ (bO G ab b_ab ++ [])) → ∀ ls : Array Slot, lv_has ls 2 [(0, .ref (ar 99))] → W p l e ({ frames := 1, cells := 0, slots := 0, locals := 22 }) s m [.ref (ar 99)].toArray below meth c H locs 0 0 (MQ below (Don G A (rO G ar ab at_ out ++ (bO G ab b_ab ++ []))) [.ref (ar 99)].toArray s 0 0 A) (F0 m 0 ls [])), ∀ (r_ar : Pic), b_X4_advance_0 b_ab k0 r_ar = some out → ∀ (H : Heap) (locs : List Loc), Wd G A s H locs (rO G ar ab at_ r_ar ++ (bO G ab b_ab ++ [])) → ∀ ls : Array Slot, lv_has ls 2 [(0, .ref (ar 99))] → W p l e ({ frames := 1, cells := 0, slots := 0, locals := 22 }) s m [.ref (ar 99)].toArray below meth c H locs 0 0 (MQ below (Don G A (rO G ar ab at_ out ++ (bO G ab b_ab ++ []))) [.ref (ar 99)].toArray s 0 0 A) (F0 m 0 ls []) := by
    intro k0 hk0 r_ar hf H locs hw ls hl
    unfold b_X4_advance_0 at hf
    refine r_aload0 C hl 0 rfl dX4_advance_0 ?_
    refine r_get C hw _ (gx_h rO_o) 2 fl_X4_35 rfl dX4_advance_1 ?_
    refine r_aload0 C hl 0 rfl dX4_advance_4 ?_
    refine r_get C hw _ (gx_h rO_o) 1 fl_X4_28 rfl dX4_advance_5 ?_
    refine lv_icmp_ge (tgt := 36) C.1 C.2.1 dX4_advance_8 (by decide) (fun hc => ?_) (fun hc => ?_)
    · replace hf := ifp hf hc
      exact hB_36  r_ar hf _ _ hw _ (lv_sub hl [0] rfl)
    · replace hf := ifn hf hc
      refine r_aload0 C hl 0 rfl dX4_advance_11 ?_
      refine r_aload0 C hl 0 rfl dX4_advance_12 ?_
      refine r_get C hw _ (gx_h rO_o) 2 fl_X4_35 rfl dX4_advance_13 ?_
      obtain ⟨u9, e9, hf⟩ := bx hf
      refine r_callVi (ws' := (rO G ar ab at_ r_ar ++ (bO G ab b_ab ++ []))) (As := [.int (gS r_ar 2)]) (rest := []) C hw hl.1 kX4_kindAt ml_X4_154 (c_X4_kindAt l G ar ab at_ _ r_ar b_ab (gS r_ar 2) u9 e9) (CutX.take rO_f2 (CutX.take bO_f CutX.none)) _ (gx_h rO_o) rfl ⟨rfl, rfl⟩ ⟨Nat.le_of_ble_eq_true rfl, Nat.le_of_ble_eq_true rfl⟩ rfl ⟨Nat.zero_le _, Nat.zero_le _⟩ rfl (Nat.le_of_ble_eq_true rfl) dX4_advance_16 (fun H locs hw => ?_)
      refine lv_iconst (v := 5) C.1 C.2.1 dX4_advance_19 (by decide) ?_
      refine lv_icmp_ne (tgt := 36) C.1 C.2.1 dX4_advance_20 (by decide) (fun hc => ?_) (fun hc => ?_)
      · replace hf := ifn hf hc
        exact hB_36  r_ar hf _ _ hw _ (lv_sub hl [0] rfl)
      · replace hf := ifp hf hc
        refine r_aload0 C hl 0 rfl dX4_advance_23 ?_
        refine lv_dup C.1 C.2.1 dX4_advance_24 rfl ?_
        refine r_get C hw _ (gx_h rO_o) 2 fl_X4_35 rfl dX4_advance_25 ?_
        refine lv_iconst (v := 1) C.1 C.2.1 dX4_advance_28 (by decide) ?_
        refine lv_iadd C.1 C.2.1 dX4_advance_29 ?_
        obtain ⟨r_ar10, e10, hf⟩ := bx hf
        refine r_put C hw _ (gx_h rO_o) 2 fp_X4_35 rfl rfl (Nat.le_of_ble_eq_true rfl) (rO G ar ab at_ r_ar10 ++ (bO G ab b_ab ++ [])) (sx_h rO_o (rO_p2 e10)) dX4_advance_30 (fun H locs hw => ?_)
        refine lv_goto (tgt := 0) C.1 C.2.1 dX4_advance_33 (by decide) ?_
        exact hk0 r_ar10 hf _ _ hw _ (lv_sub hl [0] rfl)
  have hL_0 : ∀ n : Nat, ∀ (r_ar : Pic), L_X4_advance_0 b_ab  n r_ar = some out → ∀ (H : Heap) (locs : List Loc), Wd G A s H locs (rO G ar ab at_ r_ar ++ (bO G ab b_ab ++ [])) → ∀ ls : Array Slot, lv_has ls 2 [(0, .ref (ar 99))] → W p l e ({ frames := 1, cells := 0, slots := 0, locals := 22 }) s m [.ref (ar 99)].toArray below meth c H locs 0 0 (MQ below (Don G A (rO G ar ab at_ out ++ (bO G ab b_ab ++ []))) [.ref (ar 99)].toArray s 0 0 A) (F0 m 0 ls []) := by
    intro  n
    induction n with
    | zero => intro r_ar hf; cases hf
    | succ n ih => exact hB_0 _ ih
  unfold f_X4_advance at hf
  refine r_aload0 C hl 0 rfl dX4_advance_0 ?_
  refine r_get C hw _ (gx_h rO_o) 2 fl_X4_35 rfl dX4_advance_1 ?_
  refine r_aload0 C hl 0 rfl dX4_advance_4 ?_
  refine r_get C hw _ (gx_h rO_o) 1 fl_X4_28 rfl dX4_advance_5 ?_
  refine lv_icmp_ge (tgt := 36) C.1 C.2.1 dX4_advance_8 (by decide) (fun hc => ?_) (fun hc => ?_)
  · replace hf := ifp hf hc
    exact hB_36  r_ar hf _ _ hw _ (lv_sub hl [0] rfl)
  · replace hf := ifn hf hc
    refine r_aload0 C hl 0 rfl dX4_advance_11 ?_
    refine r_aload0 C hl 0 rfl dX4_advance_12 ?_
    refine r_get C hw _ (gx_h rO_o) 2 fl_X4_35 rfl dX4_advance_13 ?_
    obtain ⟨u7, e7, hf⟩ := bx hf
    refine r_callVi (ws' := (rO G ar ab at_ r_ar ++ (bO G ab b_ab ++ []))) (As := [.int (gS r_ar 2)]) (rest := []) C hw hl.1 kX4_kindAt ml_X4_154 (c_X4_kindAt l G ar ab at_ _ r_ar b_ab (gS r_ar 2) u7 e7) (CutX.take rO_f2 (CutX.take bO_f CutX.none)) _ (gx_h rO_o) rfl ⟨rfl, rfl⟩ ⟨Nat.le_of_ble_eq_true rfl, Nat.le_of_ble_eq_true rfl⟩ rfl ⟨Nat.zero_le _, Nat.zero_le _⟩ rfl (Nat.le_of_ble_eq_true rfl) dX4_advance_16 (fun H locs hw => ?_)
    refine lv_iconst (v := 5) C.1 C.2.1 dX4_advance_19 (by decide) ?_
    refine lv_icmp_ne (tgt := 36) C.1 C.2.1 dX4_advance_20 (by decide) (fun hc => ?_) (fun hc => ?_)
    · replace hf := ifn hf hc
      exact hB_36  r_ar hf _ _ hw _ (lv_sub hl [0] rfl)
    · replace hf := ifp hf hc
      refine r_aload0 C hl 0 rfl dX4_advance_23 ?_
      refine lv_dup C.1 C.2.1 dX4_advance_24 rfl ?_
      refine r_get C hw _ (gx_h rO_o) 2 fl_X4_35 rfl dX4_advance_25 ?_
      refine lv_iconst (v := 1) C.1 C.2.1 dX4_advance_28 (by decide) ?_
      refine lv_iadd C.1 C.2.1 dX4_advance_29 ?_
      obtain ⟨r_ar8, e8, hf⟩ := bx hf
      refine r_put C hw _ (gx_h rO_o) 2 fp_X4_35 rfl rfl (Nat.le_of_ble_eq_true rfl) (rO G ar ab at_ r_ar8 ++ (bO G ab b_ab ++ [])) (sx_h rO_o (rO_p2 e8)) dX4_advance_30 (fun H locs hw => ?_)
      refine lv_goto (tgt := 0) C.1 C.2.1 dX4_advance_33 (by decide) ?_
      exact hL_0  FU r_ar8 hf _ _ hw _ (lv_sub hl [0] rfl)
set_option maxHeartbeats 4000000 in
set_option maxRecDepth 100000 in
theorem c_X4_opOfWord (l : Launch) (G : GG) (K : SK) (ar : Nat → Nat) (ab : Nat → Nat) (at_ : Nat → Nat) (sz : Nat) (r_ar : Pic) (b_ab : Pic)  (out : Int32) (hf : f_X4_opOfWord r_ar b_ab = some out) : Met l yX4_opOfWord (.code yX4_opOfWord cX4_opOfWord 1 (some .int) :: BT) ({ frames := 5, cells := 0, slots := 0, locals := 107 }) (va_Pc [.ref (ar 99)] (PreT G K sz (rO G ar ab at_ r_ar ++ (bO G ab b_ab ++ [])))) (Ans G out (va_A (rO G ar ab at_ r_ar ++ (bO G ab b_ab ++ [])) sz) (rO G ar ab at_ r_ar ++ (bO G ab b_ab ++ []))) 0 0 (va_A (rO G ar ab at_ r_ar ++ (bO G ab b_ab ++ [])) sz) := by
  refine Met.intoT (by decide) (Nat.le_of_ble_eq_true rfl) ?_
  intro p e s m below meth c C hsz hq ls hl hw
  have hl : lv_has ls 1 [(0, .ref (ar 99))] := hl
  clear hsz
  generalize va_A (rO G ar ab at_ r_ar ++ (bO G ab b_ab ++ [])) sz = A at hw hq ⊢
  unfold f_X4_opOfWord at hf
  refine r_aload0 C hl 0 rfl dX4_opOfWord_0 ?_
  refine va_ldcS C.1 C.2.1 C.2.2.2.1 (hq.2.1 6 (by decide)).1 dX4_opOfWord_1 ?_
  obtain ⟨u1, e1, hf⟩ := bx hf
  refine g_callVi (ws' := (rO G ar ab at_ r_ar ++ (bO G ab b_ab ++ []))) (As := [.ref (K.1 6)]) (rest := []) C hw hl.1 kX4_isWord ml_X4_60 (c_X4_isWord l G K ar ab at_ _ r_ar b_ab 6 (by decide) u1 e1) blindT (CutX.take rO_f2 (CutX.take bO_f CutX.none)) (fun hf U hU hW hp => ⟨hp, hq.pass hw.2.2.2.1 hf hU hW⟩) (va_recv hw.1 hw.2.1 rfl (gx_h rO_o)) ⟨rfl, rfl⟩ ⟨Nat.le_of_ble_eq_true rfl, Nat.le_of_ble_eq_true rfl⟩ rfl ⟨Nat.zero_le _, Nat.zero_le _⟩ rfl (Nat.le_of_ble_eq_true rfl) dX4_opOfWord_3 (fun H locs hw => ?_)
  refine lv_if_eq (tgt := 11) C.1 C.2.1 dX4_opOfWord_6 (by decide) (fun hc => ?_) (fun hc => ?_)
  · replace hf := ifp hf hc
    refine r_aload0 C hl 0 rfl dX4_opOfWord_11 ?_
    refine va_ldcS C.1 C.2.1 C.2.2.2.1 (hq.2.1 7 (by decide)).1 dX4_opOfWord_12 ?_
    obtain ⟨u2, e2, hf⟩ := bx hf
    refine g_callVi (ws' := (rO G ar ab at_ r_ar ++ (bO G ab b_ab ++ []))) (As := [.ref (K.1 7)]) (rest := []) C hw hl.1 kX4_isWord ml_X4_60 (c_X4_isWord l G K ar ab at_ _ r_ar b_ab 7 (by decide) u2 e2) blindT (CutX.take rO_f2 (CutX.take bO_f CutX.none)) (fun hf U hU hW hp => ⟨hp, hq.pass hw.2.2.2.1 hf hU hW⟩) (va_recv hw.1 hw.2.1 rfl (gx_h rO_o)) ⟨rfl, rfl⟩ ⟨Nat.le_of_ble_eq_true rfl, Nat.le_of_ble_eq_true rfl⟩ rfl ⟨Nat.zero_le _, Nat.zero_le _⟩ rfl (Nat.le_of_ble_eq_true rfl) dX4_opOfWord_14 (fun H locs hw => ?_)
    refine lv_if_eq (tgt := 22) C.1 C.2.1 dX4_opOfWord_17 (by decide) (fun hc => ?_) (fun hc => ?_)
    · replace hf := ifp hf hc
      refine r_aload0 C hl 0 rfl dX4_opOfWord_22 ?_
      refine va_ldcS C.1 C.2.1 C.2.2.2.1 (hq.2.1 8 (by decide)).1 dX4_opOfWord_23 ?_
      obtain ⟨u3, e3, hf⟩ := bx hf
      refine g_callVi (ws' := (rO G ar ab at_ r_ar ++ (bO G ab b_ab ++ []))) (As := [.ref (K.1 8)]) (rest := []) C hw hl.1 kX4_isWord ml_X4_60 (c_X4_isWord l G K ar ab at_ _ r_ar b_ab 8 (by decide) u3 e3) blindT (CutX.take rO_f2 (CutX.take bO_f CutX.none)) (fun hf U hU hW hp => ⟨hp, hq.pass hw.2.2.2.1 hf hU hW⟩) (va_recv hw.1 hw.2.1 rfl (gx_h rO_o)) ⟨rfl, rfl⟩ ⟨Nat.le_of_ble_eq_true rfl, Nat.le_of_ble_eq_true rfl⟩ rfl ⟨Nat.zero_le _, Nat.zero_le _⟩ rfl (Nat.le_of_ble_eq_true rfl) dX4_opOfWord_25 (fun H locs hw => ?_)
      refine lv_if_eq (tgt := 35) C.1 C.2.1 dX4_opOfWord_28 (by decide) (fun hc => ?_) (fun hc => ?_)
      · replace hf := ifp hf hc
        refine lv_iconst (v := (-1)) C.1 C.2.1 dX4_opOfWord_35 (by decide) ?_
        exact fin_i C hw (Option.some.inj hf) (fun o => o) (fun o => (rO G ar ab at_ r_ar ++ (bO G ab b_ab ++ []))) rfl rfl dX4_opOfWord_36
      · replace hf := ifn hf hc
        refine lv_iconst (v := 2) C.1 C.2.1 dX4_opOfWord_31 (by decide) ?_
        refine lv_goto (tgt := 36) C.1 C.2.1 dX4_opOfWord_32 (by decide) ?_
        exact fin_i C hw (Option.some.inj hf) (fun o => o) (fun o => (rO G ar ab at_ r_ar ++ (bO G ab b_ab ++ []))) rfl rfl dX4_opOfWord_36
    · replace hf := ifn hf hc
      refine lv_iconst (v := 1) C.1 C.2.1 dX4_opOfWord_20 (by decide) ?_
      exact fin_i C hw (Option.some.inj hf) (fun o => o) (fun o => (rO G ar ab at_ r_ar ++ (bO G ab b_ab ++ []))) rfl rfl dX4_opOfWord_21
  · replace hf := ifn hf hc
    refine lv_iconst (v := 0) C.1 C.2.1 dX4_opOfWord_9 (by decide) ?_
    exact fin_i C hw (Option.some.inj hf) (fun o => o) (fun o => (rO G ar ab at_ r_ar ++ (bO G ab b_ab ++ []))) rfl rfl dX4_opOfWord_10
set_option maxHeartbeats 4000000 in
set_option maxRecDepth 100000 in
theorem c_X4_takeWord (l : Launch) (G : GG) (K : SK) (ar : Nat → Nat) (ab : Nat → Nat) (at_ : Nat → Nat) (sz : Nat) (r_ar : Pic) (b_ab : Pic) (w1 : Nat) (hi_w1 : w1 < 9) (out : Int32 × Pic) (hf : f_X4_takeWord r_ar b_ab w1 = some out) : Met l yX4_takeWord (.code yX4_takeWord cX4_takeWord 2 (some .boolean) :: BT) ({ frames := 5, cells := 0, slots := 0, locals := 107 }) (va_Pc [.ref (ar 99), .ref (K.1 w1)] (PreT G K sz (rO G ar ab at_ r_ar ++ (bO G ab b_ab ++ [])))) (Ans G out.1 (va_A (rO G ar ab at_ r_ar ++ (bO G ab b_ab ++ [])) sz) (rO G ar ab at_ out.2 ++ (bO G ab b_ab ++ []))) 0 0 (va_A (rO G ar ab at_ r_ar ++ (bO G ab b_ab ++ [])) sz) := by
  refine Met.intoT (by decide) (Nat.le_of_ble_eq_true rfl) ?_
  intro p e s m below meth c C hsz hq ls hl hw
  have hl : lv_has ls 2 [(0, .ref (ar 99)), (1, .ref (K.1 w1))] := hl
  clear hsz
  generalize va_A (rO G ar ab at_ r_ar ++ (bO G ab b_ab ++ [])) sz = A at hw hq ⊢
  unfold f_X4_takeWord at hf
  refine r_aload0 C hl 0 rfl dX4_takeWord_0 ?_
  refine r_aload0 C hl 1 rfl dX4_takeWord_1 ?_
  obtain ⟨u1, e1, hf⟩ := bx hf
  refine g_callVi (ws' := (rO G ar ab at_ r_ar ++ (bO G ab b_ab ++ []))) (As := [.ref (K.1 w1)]) (rest := []) C hw hl.1 kX4_isWord ml_X4_60 (c_X4_isWord l G K ar ab at_ _ r_ar b_ab w1 hi_w1 u1 e1) blindT (CutX.take rO_f2 (CutX.take bO_f CutX.none)) (fun hf U hU hW hp => ⟨hp, hq.pass hw.2.2.2.1 hf hU hW⟩) (va_recv hw.1 hw.2.1 rfl (gx_h rO_o)) ⟨rfl, rfl⟩ ⟨Nat.le_of_ble_eq_true rfl, Nat.le_of_ble_eq_true rfl⟩ rfl ⟨Nat.zero_le _, Nat.zero_le _⟩ rfl (Nat.le_of_ble_eq_true rfl) dX4_takeWord_2 (fun H locs hw => ?_)
  refine lv_if_ne (tgt := 14) C.1 C.2.1 dX4_takeWord_5 (by decide) (fun hc => ?_) (fun hc => ?_)
  · replace hf := ifn hf hc
    refine r_aload0 C hl 0 rfl dX4_takeWord_14 ?_
    obtain ⟨u2, e2, hf⟩ := bx hf
    refine r_callVv (ws' := (rO G ar ab at_ u2 ++ (bO G ab b_ab ++ []))) (As := []) (rest := []) C hw hl.1 kX4_advance ml_X4_45 (c_X4_advance l G ar ab at_ _ r_ar b_ab u2 e2) (CutX.take rO_f2 (CutX.take bO_f CutX.none)) _ (gx_h rO_o) rfl ⟨rfl, rfl⟩ ⟨Nat.le_of_ble_eq_true rfl, Nat.le_of_ble_eq_true rfl⟩ rfl ⟨Nat.zero_le _, Nat.zero_le _⟩ rfl (Nat.le_of_ble_eq_true rfl) dX4_takeWord_15 (fun H locs hw => ?_)
    refine lv_iconst (v := 1) C.1 C.2.1 dX4_takeWord_18 (by decide) ?_
    exact fin_z C hw (by decide) (Option.some.inj hf) (fun o => o.1) (fun o => (rO G ar ab at_ o.2 ++ (bO G ab b_ab ++ []))) rfl rfl dX4_takeWord_19
  · replace hf := ifp hf hc
    refine r_aload0 C hl 0 rfl dX4_takeWord_8 ?_
    refine lv_iconst (v := 1) C.1 C.2.1 dX4_takeWord_9 (by decide) ?_
    obtain ⟨u3, e3, hf⟩ := bx hf
    refine r_callVi (ws' := (rO G ar ab at_ u3.2 ++ (bO G ab b_ab ++ []))) (As := [.int 1]) (rest := []) C hw hl.1 kX4_fail ml_X4_64 (c_X4_fail l G ar ab at_ _ r_ar 1 u3 e3) (CutX.take rO_f2 CutX.none) _ (gx_h rO_o) rfl ⟨rfl, rfl⟩ ⟨Nat.le_of_ble_eq_true rfl, Nat.le_of_ble_eq_true rfl⟩ rfl ⟨Nat.zero_le _, Nat.zero_le _⟩ rfl (Nat.le_of_ble_eq_true rfl) dX4_takeWord_10 (fun H locs hw => ?_)
    obtain ⟨z4_, e4, hf⟩ := bx hf
    obtain rfl := okZ_in e4
    exact fin_z C hw e4 (Option.some.inj hf) (fun o => o.1) (fun o => (rO G ar ab at_ o.2 ++ (bO G ab b_ab ++ []))) rfl rfl dX4_takeWord_13
set_option maxHeartbeats 4000000 in
set_option maxRecDepth 100000 in
theorem c_X4_takeWhole (l : Launch) (G : GG) (ar : Nat → Nat) (ab : Nat → Nat) (at_ : Nat → Nat) (sz : Nat) (r_ar : Pic) (b_ab : Pic) (x1 : Int32) (x2 : Int32) (out : Int32 × Pic) (hf : f_X4_takeWhole r_ar b_ab x1 x2 = some out) : Met l yX4_takeWhole (.code yX4_takeWhole cX4_takeWhole 5 (some .int) :: BT) ({ frames := 2, cells := 0, slots := 0, locals := 43 }) (va_Pc [.ref (ar 99), .int x1, .int x2] (PreW G sz (rO G ar ab at_ r_ar ++ (bO G ab b_ab ++ [])))) (Ans G out.1 (va_A (rO G ar ab at_ r_ar ++ (bO G ab b_ab ++ [])) sz) (rO G ar ab at_ out.2 ++ (bO G ab b_ab ++ []))) 0 0 (va_A (rO G ar ab at_ r_ar ++ (bO G ab b_ab ++ [])) sz) := by
  refine Met.into (by decide) (Nat.le_of_ble_eq_true rfl) ?_
  intro p e s m below meth c C hsz ls hl hw
  have hl : lv_has ls 5 [(0, .ref (ar 99)), (1, .int x1), (2, .int x2)] := hl
  clear hsz
  generalize va_A (rO G ar ab at_ r_ar ++ (bO G ab b_ab ++ [])) sz = A at hw ⊢
  have hB_64 : ∀ (r_ar : Pic), b_X4_takeWhole_64 b_ab x1 x2  r_ar = some out → ∀ (H : Heap) (locs : List Loc), Wd G A s H locs (rO G ar ab at_ r_ar ++ (bO G ab b_ab ++ [])) → ∀ ls : Array Slot, lv_has ls 5 [(0, .ref (ar 99))] → W p l e ({ frames := 2, cells := 0, slots := 0, locals := 43 }) s m [.ref (ar 99), .int x1, .int x2].toArray below meth c H locs 0 0 (MQ below (Ans G out.1 A (rO G ar ab at_ out.2 ++ (bO G ab b_ab ++ []))) [.ref (ar 99), .int x1, .int x2].toArray s 0 0 A) (F0 m 64 ls []) := by
    intro r_ar hf H locs hw ls hl
    unfold b_X4_takeWhole_64 at hf
    refine r_aload0 C hl 0 rfl dX4_takeWhole_64 ?_
    refine lv_iconst (v := 2) C.1 C.2.1 dX4_takeWhole_65 (by decide) ?_
    obtain ⟨u1, e1, hf⟩ := bx hf
    refine r_callVi (ws' := (rO G ar ab at_ u1.2 ++ (bO G ab b_ab ++ []))) (As := [.int 2]) (rest := []) C hw hl.1 kX4_fail ml_X4_64 (c_X4_fail l G ar ab at_ _ r_ar 2 u1 e1) (CutX.take rO_f2 CutX.none) _ (gx_h rO_o) rfl ⟨rfl, rfl⟩ ⟨Nat.le_of_ble_eq_true rfl, Nat.le_of_ble_eq_true rfl⟩ rfl ⟨Nat.zero_le _, Nat.zero_le _⟩ rfl (Nat.le_of_ble_eq_true rfl) dX4_takeWhole_66 (fun H locs hw => ?_)
    refine lv_pop C.1 C.2.1 dX4_takeWhole_69 rfl ?_
    refine lv_iconst (v := (-1)) C.1 C.2.1 dX4_takeWhole_70 (by decide) ?_
    exact fin_i C hw (Option.some.inj hf) (fun o => o.1) (fun o => (rO G ar ab at_ o.2 ++ (bO G ab b_ab ++ []))) rfl rfl dX4_takeWhole_71
  have hB_24 : ∀ (k24 : Pic → Int32 → Int32 → Option (Int32 × Pic)) (hk24 : ∀ (r_ar : Pic) (v3 : Int32) (v4 : Int32), k24 r_ar v3 v4 = some out → ∀ (H : Heap) (locs : List Loc), Wd G A s H locs (rO G ar ab at_ r_ar ++ (bO G ab b_ab ++ [])) → ∀ ls : Array Slot, lv_has ls 5 [(0, .ref (ar 99)), (1, .int x1), (2, .int x2), (3, .int v3), (4, .int v4)] → W p l e ({ frames := 2, cells := 0, slots := 0, locals := 43 }) s m [.ref (ar 99), .int x1, .int x2].toArray below meth c H locs 0 0 (MQ below (Ans G out.1 A (rO G ar ab at_ out.2 ++ (bO G ab b_ab ++ []))) [.ref (ar 99), .int x1, .int x2].toArray s 0 0 A) (F0 m 24 ls [])), ∀ (r_ar : Pic) (v3 : Int32) (v4 : Int32), b_X4_takeWhole_24 b_ab x1 x2 k24 r_ar v3 v4 = some out → ∀ (H : Heap) (locs : List Loc), Wd G A s H locs (rO G ar ab at_ r_ar ++ (bO G ab b_ab ++ [])) → ∀ ls : Array Slot, lv_has ls 5 [(0, .ref (ar 99)), (1, .int x1), (2, .int x2), (3, .int v3), (4, .int v4)] → W p l e ({ frames := 2, cells := 0, slots := 0, locals := 43 }) s m [.ref (ar 99), .int x1, .int x2].toArray below meth c H locs 0 0 (MQ below (Ans G out.1 A (rO G ar ab at_ out.2 ++ (bO G ab b_ab ++ []))) [.ref (ar 99), .int x1, .int x2].toArray s 0 0 A) (F0 m 24 ls []) := by
    intro k24 hk24 r_ar v3 v4 hf H locs hw ls hl
    unfold b_X4_takeWhole_24 at hf
    refine r_iload C hl 4 rfl dX4_takeWhole_24 ?_
    refine r_aload0 C hl 0 rfl dX4_takeWhole_26 ?_
    refine r_get C hw _ (gx_h rO_o) 2 fl_X4_35 rfl dX4_takeWhole_27 ?_
    refine lv_icmp_ge (tgt := 54) C.1 C.2.1 dX4_takeWhole_30 (by decide) (fun hc => ?_) (fun hc => ?_)
    · replace hf := ifp hf hc
      refine r_iload0 C hl 3 rfl dX4_takeWhole_54 ?_
      refine r_iload0 C hl 1 rfl dX4_takeWhole_55 ?_
      refine lv_icmp_lt (tgt := 64) C.1 C.2.1 dX4_takeWhole_56 (by decide) (fun hc => ?_) (fun hc => ?_)
      · replace hf := ifp hf hc
        exact hB_64  r_ar hf _ _ hw _ (lv_sub hl [0] rfl)
      · replace hf := ifn hf hc
        refine r_iload0 C hl 3 rfl dX4_takeWhole_59 ?_
        refine r_iload0 C hl 2 rfl dX4_takeWhole_60 ?_
        refine lv_icmp_le (tgt := 72) C.1 C.2.1 dX4_takeWhole_61 (by decide) (fun hc => ?_) (fun hc => ?_)
        · replace hf := ifp hf hc
          refine r_aload0 C hl 0 rfl dX4_takeWhole_72 ?_
          obtain ⟨u2, e2, hf⟩ := bx hf
          refine r_callVv (ws' := (rO G ar ab at_ u2 ++ (bO G ab b_ab ++ []))) (As := []) (rest := []) C hw hl.1 kX4_advance ml_X4_45 (c_X4_advance l G ar ab at_ _ r_ar b_ab u2 e2) (CutX.take rO_f2 (CutX.take bO_f CutX.none)) _ (gx_h rO_o) rfl ⟨rfl, rfl⟩ ⟨Nat.le_of_ble_eq_true rfl, Nat.le_of_ble_eq_true rfl⟩ rfl ⟨Nat.zero_le _, Nat.zero_le _⟩ rfl (Nat.le_of_ble_eq_true rfl) dX4_takeWhole_73 (fun H locs hw => ?_)
          refine r_iload0 C hl 3 rfl dX4_takeWhole_76 ?_
          exact fin_i C hw (Option.some.inj hf) (fun o => o.1) (fun o => (rO G ar ab at_ o.2 ++ (bO G ab b_ab ++ []))) rfl rfl dX4_takeWhole_77
        · replace hf := ifn hf hc
          exact hB_64  r_ar hf _ _ hw _ (lv_sub hl [0] rfl)
    · replace hf := ifn hf hc
      refine r_iload0 C hl 3 rfl dX4_takeWhole_33 ?_
      refine lv_bipush (v := 10) C.1 C.2.1 dX4_takeWhole_34 (by decide) ?_
      refine lv_imul C.1 C.2.1 dX4_takeWhole_36 ?_
      refine r_aload0 C hl 0 rfl dX4_takeWhole_37 ?_
      refine r_iload C hl 4 rfl dX4_takeWhole_38 ?_
      obtain ⟨u3, e3, hf⟩ := bx hf
      refine r_callVi (ws' := (rO G ar ab at_ r_ar ++ (bO G ab b_ab ++ []))) (As := [.int v4]) (rest := [.int (v3 * 10)]) C hw hl.1 kX4_byteAt ml_X4_142 (c_X4_byteAt l G ar ab at_ _ r_ar b_ab v4 u3 e3) (CutX.take rO_f2 (CutX.take bO_f CutX.none)) _ (gx_h rO_o) rfl ⟨rfl, rfl⟩ ⟨Nat.le_of_ble_eq_true rfl, Nat.le_of_ble_eq_true rfl⟩ rfl ⟨Nat.zero_le _, Nat.zero_le _⟩ rfl (Nat.le_of_ble_eq_true rfl) dX4_takeWhole_40 (fun H locs hw => ?_)
      refine lv_iadd C.1 C.2.1 dX4_takeWhole_43 ?_
      refine lv_bipush (v := 48) C.1 C.2.1 dX4_takeWhole_44 (by decide) ?_
      refine lv_isub C.1 C.2.1 dX4_takeWhole_46 ?_
      refine r_istore0 C hl [(3, .int (((v3 * 10) + u3) - 48)), (0, .ref (ar 99)), (1, .int x1), (2, .int x2), (4, .int v4)] (by decide) rfl dX4_takeWhole_47 (fun ls hl => ?_)
      refine r_iinc C hl 4 (v4 + 1) [(4, .int (v4 + 1)), (3, .int (((v3 * 10) + u3) - 48)), (0, .ref (ar 99)), (1, .int x1), (2, .int x2)] rfl (iinc_e (by decide)) (by decide) rfl dX4_takeWhole_48 (fun ls hl => ?_)
      refine lv_goto (tgt := 24) C.1 C.2.1 dX4_takeWhole_51 (by decide) ?_
      exact hk24 r_ar (((v3 * 10) + u3) - 48) (v4 + 1) hf _ _ hw _ (lv_sub hl [2, 3, 4, 1, 0] rfl)
  have hL_24 : ∀ n : Nat, ∀ (r_ar : Pic) (v3 : Int32) (v4 : Int32), L_X4_takeWhole_24 b_ab x1 x2  n r_ar v3 v4 = some out → ∀ (H : Heap) (locs : List Loc), Wd G A s H locs (rO G ar ab at_ r_ar ++ (bO G ab b_ab ++ [])) → ∀ ls : Array Slot, lv_has ls 5 [(0, .ref (ar 99)), (1, .int x1), (2, .int x2), (3, .int v3), (4, .int v4)] → W p l e ({ frames := 2, cells := 0, slots := 0, locals := 43 }) s m [.ref (ar 99), .int x1, .int x2].toArray below meth c H locs 0 0 (MQ below (Ans G out.1 A (rO G ar ab at_ out.2 ++ (bO G ab b_ab ++ []))) [.ref (ar 99), .int x1, .int x2].toArray s 0 0 A) (F0 m 24 ls []) := by
    intro  n
    induction n with
    | zero => intro r_ar v3 v4 hf; cases hf
    | succ n ih => exact hB_24 _ ih
  unfold f_X4_takeWhole at hf
  refine r_aload0 C hl 0 rfl dX4_takeWhole_0 ?_
  refine r_get C hw _ (gx_h rO_o) 4 fl_X4_52 rfl dX4_takeWhole_1 ?_
  refine lv_iconst (v := 2) C.1 C.2.1 dX4_takeWhole_4 (by decide) ?_
  refine lv_icmp_eq (tgt := 16) C.1 C.2.1 dX4_takeWhole_5 (by decide) (fun hc => ?_) (fun hc => ?_)
  · replace hf := ifp hf hc
    refine lv_iconst (v := 0) C.1 C.2.1 dX4_takeWhole_16 (by decide) ?_
    refine r_istore0 C hl [(3, .int 0), (0, .ref (ar 99)), (1, .int x1), (2, .int x2)] (by decide) rfl dX4_takeWhole_17 (fun ls hl => ?_)
    refine r_aload0 C hl 1 rfl dX4_takeWhole_18 ?_
    refine r_get C hw _ (gx_h rO_o) 3 fl_X4_131 rfl dX4_takeWhole_19 ?_
    refine r_istore C hl [(4, .int (gS r_ar 3)), (3, .int 0), (0, .ref (ar 99)), (1, .int x1), (2, .int x2)] (by decide) rfl dX4_takeWhole_22 (fun ls hl => ?_)
    exact hL_24  FU r_ar 0 (gS r_ar 3) hf _ _ hw _ (lv_sub hl [2, 3, 4, 1, 0] rfl)
  · replace hf := ifn hf hc
    refine r_aload0 C hl 0 rfl dX4_takeWhole_8 ?_
    refine lv_iconst (v := 1) C.1 C.2.1 dX4_takeWhole_9 (by decide) ?_
    obtain ⟨u4, e4, hf⟩ := bx hf
    refine r_callVi (ws' := (rO G ar ab at_ u4.2 ++ (bO G ab b_ab ++ []))) (As := [.int 1]) (rest := []) C hw hl.1 kX4_fail ml_X4_64 (c_X4_fail l G ar ab at_ _ r_ar 1 u4 e4) (CutX.take rO_f2 CutX.none) _ (gx_h rO_o) rfl ⟨rfl, rfl⟩ ⟨Nat.le_of_ble_eq_true rfl, Nat.le_of_ble_eq_true rfl⟩ rfl ⟨Nat.zero_le _, Nat.zero_le _⟩ rfl (Nat.le_of_ble_eq_true rfl) dX4_takeWhole_10 (fun H locs hw => ?_)
    refine lv_pop C.1 C.2.1 dX4_takeWhole_13 rfl ?_
    refine lv_iconst (v := (-1)) C.1 C.2.1 dX4_takeWhole_14 (by decide) ?_
    exact fin_i C hw (Option.some.inj hf) (fun o => o.1) (fun o => (rO G ar ab at_ o.2 ++ (bO G ab b_ab ++ []))) rfl rfl dX4_takeWhole_15
set_option maxHeartbeats 4000000 in
set_option maxRecDepth 100000 in
theorem c_X4_readSettings (l : Launch) (G : GG) (K : SK) (ar : Nat → Nat) (ab : Nat → Nat) (at_ : Nat → Nat) (sz : Nat) (r_ar : Pic) (b_ab : Pic) (s_at_ : Pic)  (out : Int32 × Pic × Pic) (hf : f_X4_readSettings r_ar b_ab s_at_ = some out) : Met l yX4_readSettings (.code yX4_readSettings cX4_readSettings 4 (some .boolean) :: BT) ({ frames := 6, cells := 0, slots := 0, locals := 128 }) (va_Pc [.ref (ar 99)] (PreT G K sz (rO G ar ab at_ r_ar ++ (bO G ab b_ab ++ (sO G at_ s_at_ ++ []))))) (Ans G out.1 (va_A (rO G ar ab at_ r_ar ++ (bO G ab b_ab ++ (sO G at_ s_at_ ++ []))) sz) (rO G ar ab at_ out.2.1 ++ (bO G ab b_ab ++ (sO G at_ out.2.2 ++ [])))) 0 0 (va_A (rO G ar ab at_ r_ar ++ (bO G ab b_ab ++ (sO G at_ s_at_ ++ []))) sz) := by
  refine Met.intoT (by decide) (Nat.le_of_ble_eq_true rfl) ?_
  intro p e s m below meth c C hsz hq ls hl hw
  have hl : lv_has ls 4 [(0, .ref (ar 99))] := hl
  clear hsz
  generalize va_A (rO G ar ab at_ r_ar ++ (bO G ab b_ab ++ (sO G at_ s_at_ ++ []))) sz = A at hw hq ⊢
  have hB_77 : ∀ (r_ar : Pic) (s_at_ : Pic) (v1 : Int32) (v2 : Int32) (t0 : Int32), b_X4_readSettings_77 b_ab  r_ar s_at_ v1 v2 t0 = some out → ∀ (H : Heap) (locs : List Loc), Wd G A s H locs (rO G ar ab at_ r_ar ++ (bO G ab b_ab ++ (sO G at_ s_at_ ++ []))) → ∀ ls : Array Slot, lv_has ls 4 [(0, .ref (ar 99)), (1, .int v1), (2, .int v2)] → W p l e ({ frames := 6, cells := 0, slots := 0, locals := 128 }) s m [.ref (ar 99)].toArray below meth c H locs 0 0 (MQ below (Ans G out.1 A (rO G ar ab at_ out.2.1 ++ (bO G ab b_ab ++ (sO G at_ out.2.2 ++ [])))) [.ref (ar 99)].toArray s 0 0 A) (F0 m 77 ls [.int t0]) := by
    intro r_ar s_at_ v1 v2 t0 hf H locs hw ls hl
    unfold b_X4_readSettings_77 at hf
    refine r_istore0 C hl [(3, .int t0), (0, .ref (ar 99)), (1, .int v1), (2, .int v2)] (by decide) rfl dX4_readSettings_77 (fun ls hl => ?_)
    refine r_iload0 C hl 0 rfl dX4_readSettings_78 ?_
    refine lv_if_ge (tgt := 84) C.1 C.2.1 dX4_readSettings_79 (by decide) (fun hc => ?_) (fun hc => ?_)
    · replace hf := ifp hf hc
      refine r_aload0 C hl 1 rfl dX4_readSettings_84 ?_
      refine r_get C hw _ (gx_h rO_o) 8 fl_X4_18 rfl dX4_readSettings_85 ?_
      refine r_iload0 C hl 2 rfl dX4_readSettings_88 ?_
      obtain ⟨s_at_5, e5, hf⟩ := bx hf
      refine r_put C hw _ (gx_t (gx_t (gx_h sO_o))) 0 fp_X4_111 rfl rfl (Nat.le_of_ble_eq_true rfl) (rO G ar ab at_ r_ar ++ (bO G ab b_ab ++ (sO G at_ s_at_5 ++ []))) (sx_t (sx_t (sx_h sO_o (sO_p0 e5)))) dX4_readSettings_89 (fun H locs hw => ?_)
      refine r_aload0 C hl 1 rfl dX4_readSettings_92 ?_
      refine r_get C hw _ (gx_h rO_o) 8 fl_X4_18 rfl dX4_readSettings_93 ?_
      refine r_iload0 C hl 3 rfl dX4_readSettings_96 ?_
      obtain ⟨s_at_6, e6, hf⟩ := bx hf
      refine r_put C hw _ (gx_t (gx_t (gx_h sO_o))) 1 fp_X4_114 rfl rfl (Nat.le_of_ble_eq_true rfl) (rO G ar ab at_ r_ar ++ (bO G ab b_ab ++ (sO G at_ s_at_6 ++ []))) (sx_t (sx_t (sx_h sO_o (sO_p1 e6)))) dX4_readSettings_97 (fun H locs hw => ?_)
      refine r_aload0 C hl 1 rfl dX4_readSettings_100 ?_
      refine r_get C hw _ (gx_h rO_o) 8 fl_X4_18 rfl dX4_readSettings_101 ?_
      refine r_iload0 C hl 0 rfl dX4_readSettings_104 ?_
      obtain ⟨s_at_7, e7, hf⟩ := bx hf
      refine r_put C hw _ (gx_t (gx_t (gx_h sO_o))) 2 fp_X4_117 rfl rfl (Nat.le_of_ble_eq_true rfl) (rO G ar ab at_ r_ar ++ (bO G ab b_ab ++ (sO G at_ s_at_7 ++ []))) (sx_t (sx_t (sx_h sO_o (sO_p2 e7)))) dX4_readSettings_105 (fun H locs hw => ?_)
      refine r_aload0 C hl 1 rfl dX4_readSettings_108 ?_
      refine lv_iconst (v := 1) C.1 C.2.1 dX4_readSettings_109 (by decide) ?_
      obtain ⟨r_ar8, e8, hf⟩ := bx hf
      refine r_put C hw _ (gx_h rO_o) 5 fp_X4_38 (by decide) rfl (Nat.le_of_ble_eq_true rfl) (rO G ar ab at_ r_ar8 ++ (bO G ab b_ab ++ (sO G at_ s_at_7 ++ []))) (sx_h rO_o (rO_p5 e8)) dX4_readSettings_110 (fun H locs hw => ?_)
      refine r_aload0 C hl 1 rfl dX4_readSettings_113 ?_
      obtain ⟨u9, e9, hf⟩ := bx hf
      refine r_callVi (ws' := (rO G ar ab at_ r_ar8 ++ (bO G ab b_ab ++ (sO G at_ s_at_7 ++ [])))) (As := []) (rest := []) C hw hl.1 kX4_isLineEnd ml_X4_120 (c_X4_isLineEnd l G ar ab at_ _ r_ar8 u9 e9) (CutX.take rO_f2 CutX.none) _ (gx_h rO_o) rfl ⟨rfl, rfl⟩ ⟨Nat.le_of_ble_eq_true rfl, Nat.le_of_ble_eq_true rfl⟩ rfl ⟨Nat.zero_le _, Nat.zero_le _⟩ rfl (Nat.le_of_ble_eq_true rfl) dX4_readSettings_114 (fun H locs hw => ?_)
      refine lv_if_ne (tgt := 128) C.1 C.2.1 dX4_readSettings_117 (by decide) (fun hc => ?_) (fun hc => ?_)
      · replace hf := ifn hf hc
        refine lv_iconst (v := 1) C.1 C.2.1 dX4_readSettings_128 (by decide) ?_
        refine lv_goto (tgt := 133) C.1 C.2.1 dX4_readSettings_129 (by decide) ?_
        exact fin_z C hw (by decide) (Option.some.inj hf) (fun o => o.1) (fun o => (rO G ar ab at_ o.2.1 ++ (bO G ab b_ab ++ (sO G at_ o.2.2 ++ [])))) rfl rfl dX4_readSettings_133
      · replace hf := ifp hf hc
        refine r_aload0 C hl 1 rfl dX4_readSettings_120 ?_
        refine lv_iconst (v := 1) C.1 C.2.1 dX4_readSettings_121 (by decide) ?_
        obtain ⟨u10, e10, hf⟩ := bx hf
        refine r_callVi (ws' := (rO G ar ab at_ u10.2 ++ (bO G ab b_ab ++ (sO G at_ s_at_7 ++ [])))) (As := [.int 1]) (rest := []) C hw hl.1 kX4_fail ml_X4_64 (c_X4_fail l G ar ab at_ _ r_ar8 1 u10 e10) (CutX.take rO_f2 CutX.none) _ (gx_h rO_o) rfl ⟨rfl, rfl⟩ ⟨Nat.le_of_ble_eq_true rfl, Nat.le_of_ble_eq_true rfl⟩ rfl ⟨Nat.zero_le _, Nat.zero_le _⟩ rfl (Nat.le_of_ble_eq_true rfl) dX4_readSettings_122 (fun H locs hw => ?_)
        refine lv_if_eq (tgt := 132) C.1 C.2.1 dX4_readSettings_125 (by decide) (fun hc => ?_) (fun hc => ?_)
        · replace hf := ifp hf hc
          refine lv_iconst (v := 0) C.1 C.2.1 dX4_readSettings_132 (by decide) ?_
          exact fin_z C hw (by decide) (Option.some.inj hf) (fun o => o.1) (fun o => (rO G ar ab at_ o.2.1 ++ (bO G ab b_ab ++ (sO G at_ o.2.2 ++ [])))) rfl rfl dX4_readSettings_133
        · replace hf := ifn hf hc
          refine lv_iconst (v := 1) C.1 C.2.1 dX4_readSettings_128 (by decide) ?_
          refine lv_goto (tgt := 133) C.1 C.2.1 dX4_readSettings_129 (by decide) ?_
          exact fin_z C hw (by decide) (Option.some.inj hf) (fun o => o.1) (fun o => (rO G ar ab at_ o.2.1 ++ (bO G ab b_ab ++ (sO G at_ o.2.2 ++ [])))) rfl rfl dX4_readSettings_133
    · replace hf := ifn hf hc
      refine lv_iconst (v := 0) C.1 C.2.1 dX4_readSettings_82 (by decide) ?_
      exact fin_z C hw (by decide) (Option.some.inj hf) (fun o => o.1) (fun o => (rO G ar ab at_ o.2.1 ++ (bO G ab b_ab ++ (sO G at_ o.2.2 ++ [])))) rfl rfl dX4_readSettings_83
  have hB_50 : ∀ (r_ar : Pic) (s_at_ : Pic) (v1 : Int32) (t0 : Int32), b_X4_readSettings_50 b_ab  r_ar s_at_ v1 t0 = some out → ∀ (H : Heap) (locs : List Loc), Wd G A s H locs (rO G ar ab at_ r_ar ++ (bO G ab b_ab ++ (sO G at_ s_at_ ++ []))) → ∀ ls : Array Slot, lv_has ls 4 [(0, .ref (ar 99)), (1, .int v1)] → W p l e ({ frames := 6, cells := 0, slots := 0, locals := 128 }) s m [.ref (ar 99)].toArray below meth c H locs 0 0 (MQ below (Ans G out.1 A (rO G ar ab at_ out.2.1 ++ (bO G ab b_ab ++ (sO G at_ out.2.2 ++ [])))) [.ref (ar 99)].toArray s 0 0 A) (F0 m 50 ls [.int t0]) := by
    intro r_ar s_at_ v1 t0 hf H locs hw ls hl
    unfold b_X4_readSettings_50 at hf
    refine r_istore0 C hl [(2, .int t0), (0, .ref (ar 99)), (1, .int v1)] (by decide) rfl dX4_readSettings_50 (fun ls hl => ?_)
    refine r_iload0 C hl 0 rfl dX4_readSettings_51 ?_
    refine lv_if_ge (tgt := 57) C.1 C.2.1 dX4_readSettings_52 (by decide) (fun hc => ?_) (fun hc => ?_)
    · replace hf := ifp hf hc
      refine r_aload0 C hl 1 rfl dX4_readSettings_57 ?_
      refine va_ldcS C.1 C.2.1 C.2.2.2.1 (hq.2.1 3 (by decide)).1 dX4_readSettings_58 ?_
      obtain ⟨u4, e4, hf⟩ := bx hf
      refine g_callVi (ws' := (rO G ar ab at_ u4.2 ++ (bO G ab b_ab ++ (sO G at_ s_at_ ++ [])))) (As := [.ref (K.1 3)]) (rest := []) C hw hl.1 kX4_takeWord ml_X4_101 (c_X4_takeWord l G K ar ab at_ _ r_ar b_ab 3 (by decide) u4 e4) blindT (CutX.take rO_f2 (CutX.take bO_f CutX.none)) (fun hf U hU hW hp => ⟨hp, hq.pass hw.2.2.2.1 hf hU hW⟩) (va_recv hw.1 hw.2.1 rfl (gx_h rO_o)) ⟨rfl, rfl⟩ ⟨Nat.le_of_ble_eq_true rfl, Nat.le_of_ble_eq_true rfl⟩ rfl ⟨Nat.zero_le _, Nat.zero_le _⟩ rfl (Nat.le_of_ble_eq_true rfl) dX4_readSettings_60 (fun H locs hw => ?_)
      refine lv_if_eq (tgt := 76) C.1 C.2.1 dX4_readSettings_63 (by decide) (fun hc => ?_) (fun hc => ?_)
      · replace hf := ifp hf hc
        refine lv_iconst (v := (-1)) C.1 C.2.1 dX4_readSettings_76 (by decide) ?_
        exact hB_77  u4.2 s_at_ v1 t0 (-1) hf _ _ hw _ (lv_sub hl [1, 2, 0] rfl)
      · replace hf := ifn hf hc
        refine r_aload0 C hl 1 rfl dX4_readSettings_66 ?_
        refine lv_iconst (v := 4) C.1 C.2.1 dX4_readSettings_67 (by decide) ?_
        refine lv_bipush (v := 15) C.1 C.2.1 dX4_readSettings_68 (by decide) ?_
        obtain ⟨u11, e11, hf⟩ := bx hf
        refine r_callVi (ws' := (rO G ar ab at_ u11.2 ++ (bO G ab b_ab ++ (sO G at_ s_at_ ++ [])))) (As := [.int 4, .int 15]) (rest := []) C hw hl.1 kX4_takeWhole ml_X4_104 (c_X4_takeWhole l G ar ab at_ _ u4.2 b_ab 4 15 u11 e11) (CutX.take rO_f2 (CutX.take bO_f CutX.none)) _ (gx_h rO_o) rfl ⟨rfl, rfl⟩ ⟨Nat.le_of_ble_eq_true rfl, Nat.le_of_ble_eq_true rfl⟩ rfl ⟨Nat.zero_le _, Nat.zero_le _⟩ rfl (Nat.le_of_ble_eq_true rfl) dX4_readSettings_70 (fun H locs hw => ?_)
        refine lv_goto (tgt := 77) C.1 C.2.1 dX4_readSettings_73 (by decide) ?_
        exact hB_77  u11.2 s_at_ v1 t0 u11.1 hf _ _ hw _ (lv_sub hl [1, 2, 0] rfl)
    · replace hf := ifn hf hc
      refine lv_iconst (v := 0) C.1 C.2.1 dX4_readSettings_55 (by decide) ?_
      exact fin_z C hw (by decide) (Option.some.inj hf) (fun o => o.1) (fun o => (rO G ar ab at_ o.2.1 ++ (bO G ab b_ab ++ (sO G at_ o.2.2 ++ [])))) rfl rfl dX4_readSettings_56
  have hB_24 : ∀ (r_ar : Pic) (s_at_ : Pic) (t0 : Int32), b_X4_readSettings_24 b_ab  r_ar s_at_ t0 = some out → ∀ (H : Heap) (locs : List Loc), Wd G A s H locs (rO G ar ab at_ r_ar ++ (bO G ab b_ab ++ (sO G at_ s_at_ ++ []))) → ∀ ls : Array Slot, lv_has ls 4 [(0, .ref (ar 99))] → W p l e ({ frames := 6, cells := 0, slots := 0, locals := 128 }) s m [.ref (ar 99)].toArray below meth c H locs 0 0 (MQ below (Ans G out.1 A (rO G ar ab at_ out.2.1 ++ (bO G ab b_ab ++ (sO G at_ out.2.2 ++ [])))) [.ref (ar 99)].toArray s 0 0 A) (F0 m 24 ls [.int t0]) := by
    intro r_ar s_at_ t0 hf H locs hw ls hl
    unfold b_X4_readSettings_24 at hf
    refine r_istore0 C hl [(1, .int t0), (0, .ref (ar 99))] (by decide) rfl dX4_readSettings_24 (fun ls hl => ?_)
    refine r_iload0 C hl 0 rfl dX4_readSettings_25 ?_
    refine lv_if_ge (tgt := 31) C.1 C.2.1 dX4_readSettings_26 (by decide) (fun hc => ?_) (fun hc => ?_)
    · replace hf := ifp hf hc
      refine r_aload0 C hl 1 rfl dX4_readSettings_31 ?_
      refine va_ldcS C.1 C.2.1 C.2.2.2.1 (hq.2.1 2 (by decide)).1 dX4_readSettings_32 ?_
      obtain ⟨u3, e3, hf⟩ := bx hf
      refine g_callVi (ws' := (rO G ar ab at_ u3.2 ++ (bO G ab b_ab ++ (sO G at_ s_at_ ++ [])))) (As := [.ref (K.1 2)]) (rest := []) C hw hl.1 kX4_takeWord ml_X4_101 (c_X4_takeWord l G K ar ab at_ _ r_ar b_ab 2 (by decide) u3 e3) blindT (CutX.take rO_f2 (CutX.take bO_f CutX.none)) (fun hf U hU hW hp => ⟨hp, hq.pass hw.2.2.2.1 hf hU hW⟩) (va_recv hw.1 hw.2.1 rfl (gx_h rO_o)) ⟨rfl, rfl⟩ ⟨Nat.le_of_ble_eq_true rfl, Nat.le_of_ble_eq_true rfl⟩ rfl ⟨Nat.zero_le _, Nat.zero_le _⟩ rfl (Nat.le_of_ble_eq_true rfl) dX4_readSettings_34 (fun H locs hw => ?_)
      refine lv_if_eq (tgt := 49) C.1 C.2.1 dX4_readSettings_37 (by decide) (fun hc => ?_) (fun hc => ?_)
      · replace hf := ifp hf hc
        refine lv_iconst (v := (-1)) C.1 C.2.1 dX4_readSettings_49 (by decide) ?_
        exact hB_50  u3.2 s_at_ t0 (-1) hf _ _ hw _ (lv_sub hl [1, 0] rfl)
      · replace hf := ifn hf hc
        refine r_aload0 C hl 1 rfl dX4_readSettings_40 ?_
        refine lv_iconst (v := 1) C.1 C.2.1 dX4_readSettings_41 (by decide) ?_
        refine lv_iconst (v := 4) C.1 C.2.1 dX4_readSettings_42 (by decide) ?_
        obtain ⟨u12, e12, hf⟩ := bx hf
        refine r_callVi (ws' := (rO G ar ab at_ u12.2 ++ (bO G ab b_ab ++ (sO G at_ s_at_ ++ [])))) (As := [.int 1, .int 4]) (rest := []) C hw hl.1 kX4_takeWhole ml_X4_104 (c_X4_takeWhole l G ar ab at_ _ u3.2 b_ab 1 4 u12 e12) (CutX.take rO_f2 (CutX.take bO_f CutX.none)) _ (gx_h rO_o) rfl ⟨rfl, rfl⟩ ⟨Nat.le_of_ble_eq_true rfl, Nat.le_of_ble_eq_true rfl⟩ rfl ⟨Nat.zero_le _, Nat.zero_le _⟩ rfl (Nat.le_of_ble_eq_true rfl) dX4_readSettings_43 (fun H locs hw => ?_)
        refine lv_goto (tgt := 50) C.1 C.2.1 dX4_readSettings_46 (by decide) ?_
        exact hB_50  u12.2 s_at_ t0 u12.1 hf _ _ hw _ (lv_sub hl [1, 0] rfl)
    · replace hf := ifn hf hc
      refine lv_iconst (v := 0) C.1 C.2.1 dX4_readSettings_29 (by decide) ?_
      exact fin_z C hw (by decide) (Option.some.inj hf) (fun o => o.1) (fun o => (rO G ar ab at_ o.2.1 ++ (bO G ab b_ab ++ (sO G at_ o.2.2 ++ [])))) rfl rfl dX4_readSettings_30
  unfold f_X4_readSettings at hf
  refine r_aload0 C hl 0 rfl dX4_readSettings_0 ?_
  obtain ⟨u1, e1, hf⟩ := bx hf
  refine r_callVv (ws' := (rO G ar ab at_ u1 ++ (bO G ab b_ab ++ (sO G at_ s_at_ ++ [])))) (As := []) (rest := []) C hw hl.1 kX4_advance ml_X4_45 (c_X4_advance l G ar ab at_ _ r_ar b_ab u1 e1) (CutX.take rO_f2 (CutX.take bO_f CutX.none)) _ (gx_h rO_o) rfl ⟨rfl, rfl⟩ ⟨Nat.le_of_ble_eq_true rfl, Nat.le_of_ble_eq_true rfl⟩ rfl ⟨Nat.zero_le _, Nat.zero_le _⟩ rfl (Nat.le_of_ble_eq_true rfl) dX4_readSettings_1 (fun H locs hw => ?_)
  refine r_aload0 C hl 0 rfl dX4_readSettings_4 ?_
  refine va_ldcS C.1 C.2.1 C.2.2.2.1 (hq.2.1 1 (by decide)).1 dX4_readSettings_5 ?_
  obtain ⟨u2, e2, hf⟩ := bx hf
  refine g_callVi (ws' := (rO G ar ab at_ u2.2 ++ (bO G ab b_ab ++ (sO G at_ s_at_ ++ [])))) (As := [.ref (K.1 1)]) (rest := []) C hw hl.1 kX4_takeWord ml_X4_101 (c_X4_takeWord l G K ar ab at_ _ u1 b_ab 1 (by decide) u2 e2) blindT (CutX.take rO_f2 (CutX.take bO_f CutX.none)) (fun hf U hU hW hp => ⟨hp, hq.pass hw.2.2.2.1 hf hU hW⟩) (va_recv hw.1 hw.2.1 rfl (gx_h rO_o)) ⟨rfl, rfl⟩ ⟨Nat.le_of_ble_eq_true rfl, Nat.le_of_ble_eq_true rfl⟩ rfl ⟨Nat.zero_le _, Nat.zero_le _⟩ rfl (Nat.le_of_ble_eq_true rfl) dX4_readSettings_7 (fun H locs hw => ?_)
  refine lv_if_eq (tgt := 23) C.1 C.2.1 dX4_readSettings_10 (by decide) (fun hc => ?_) (fun hc => ?_)
  · replace hf := ifp hf hc
    refine lv_iconst (v := (-1)) C.1 C.2.1 dX4_readSettings_23 (by decide) ?_
    exact hB_24  u2.2 s_at_ (-1) hf _ _ hw _ (lv_sub hl [0] rfl)
  · replace hf := ifn hf hc
    refine r_aload0 C hl 0 rfl dX4_readSettings_13 ?_
    refine lv_iconst (v := 1) C.1 C.2.1 dX4_readSettings_14 (by decide) ?_
    refine lv_bipush (v := 24) C.1 C.2.1 dX4_readSettings_15 (by decide) ?_
    obtain ⟨u13, e13, hf⟩ := bx hf
    refine r_callVi (ws' := (rO G ar ab at_ u13.2 ++ (bO G ab b_ab ++ (sO G at_ s_at_ ++ [])))) (As := [.int 1, .int 24]) (rest := []) C hw hl.1 kX4_takeWhole ml_X4_104 (c_X4_takeWhole l G ar ab at_ _ u2.2 b_ab 1 24 u13 e13) (CutX.take rO_f2 (CutX.take bO_f CutX.none)) _ (gx_h rO_o) rfl ⟨rfl, rfl⟩ ⟨Nat.le_of_ble_eq_true rfl, Nat.le_of_ble_eq_true rfl⟩ rfl ⟨Nat.zero_le _, Nat.zero_le _⟩ rfl (Nat.le_of_ble_eq_true rfl) dX4_readSettings_17 (fun H locs hw => ?_)
    refine lv_goto (tgt := 24) C.1 C.2.1 dX4_readSettings_20 (by decide) ?_
    exact hB_24  u13.2 s_at_ u13.1 hf _ _ hw _ (lv_sub hl [0] rfl)
