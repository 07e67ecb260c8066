set_option maxHeartbeats 4000000 in
set_option maxRecDepth 100000 in
theorem c_X6_measure (l : Launch) (G : GG) (ad : Nat → Nat) (ac : Nat → Nat) (sz : Nat) (c_ac : Pic) (t_ad : Pic) (e_ad : Pic) (x1 : Int32) (out : Pic × Pic) (hf : f_X6_measure c_ac t_ad e_ad x1 = some out) : Met l yX6_measure (.code yX6_measure cX6_measure 3 none :: BT) ({ frames := 4, cells := 0, slots := 0, locals := 95 }) (va_Pc [.ref (ad 299), .int x1, .ref (ac 99)] (PreW G sz (cO G ac c_ac ++ (tO G ad t_ad ++ (eO G ad e_ad ++ []))))) (Don G (va_A (cO G ac c_ac ++ (tO G ad t_ad ++ (eO G ad e_ad ++ []))) sz) (cO G ac out.1 ++ (tO G ad out.2 ++ (eO G ad e_ad ++ [])))) 0 0 (va_A (cO G ac c_ac ++ (tO G ad t_ad ++ (eO G ad e_ad ++ []))) sz) := by
  refine Met.into (by decide) (Nat.le_of_ble_eq_true rfl) ?_
  intro p e s m below meth c C hsz ls hl hw
  have hl : lv_has ls 3 [(0, .ref (ad 299)), (1, .int x1), (2, .ref (ac 99))] := hl
  clear hsz
  generalize va_A (cO G ac c_ac ++ (tO G ad t_ad ++ (eO G ad e_ad ++ []))) sz = A at hw ⊢
  unfold f_X6_measure at hf
  refine r_iload0 C hl 1 rfl dX6_measure_0 ?_
  refine lv_if_lt (tgt := 34) C.1 C.2.1 dX6_measure_1 (by decide) (fun hc => ?_) (fun hc => ?_)
  · replace hf := ifp hf hc
    exact fin_v C hw (Option.some.inj hf) (fun o => (cO G ac o.1 ++ (tO G ad o.2 ++ (eO G ad e_ad ++ [])))) rfl dX6_measure_34
  · replace hf := ifn hf hc
    refine r_iload0 C hl 1 rfl dX6_measure_4 ?_
    refine lv_bipush (v := 10) C.1 C.2.1 dX6_measure_5 (by decide) ?_
    refine lv_icmp_ge (tgt := 34) C.1 C.2.1 dX6_measure_7 (by decide) (fun hc => ?_) (fun hc => ?_)
    · replace hf := ifp hf hc
      exact fin_v C hw (Option.some.inj hf) (fun o => (cO G ac o.1 ++ (tO G ad o.2 ++ (eO G ad e_ad ++ [])))) rfl dX6_measure_34
    · replace hf := ifn hf hc
      refine r_aload0 C hl 2 rfl dX6_measure_10 ?_
      refine r_aload0 C hl 0 rfl dX6_measure_11 ?_
      refine r_get C hw _ (gx_t (gx_h tO_o)) 0 fl_X6_9 rfl dX6_measure_12 ?_
      refine r_iload0 C hl 1 rfl dX6_measure_15 ?_
      refine lv_bipush (v := 16) C.1 C.2.1 dX6_measure_16 (by decide) ?_
      refine lv_imul C.1 C.2.1 dX6_measure_18 ?_
      obtain ⟨u1, e1, hf⟩ := bx hf
      refine r_callVv (ws' := (cO G ac u1 ++ (tO G ad t_ad ++ (eO G ad e_ad ++ [])))) (As := [.ref (ad 200), .int (x1 * 16)]) (rest := []) C hw hl.1 kX1_measure ml_X6_55 (c_X1_measure l G ac ad _ c_ac e_ad (x1 * 16) u1 e1) (CutX.take cO_f (CutX.skip (CutX.take eO_f CutX.none))) _ (gx_h cO_o) rfl ⟨rfl, rfl⟩ ⟨Nat.le_of_ble_eq_true rfl, Nat.le_of_ble_eq_true rfl⟩ rfl ⟨Nat.zero_le _, Nat.zero_le _⟩ rfl (Nat.le_of_ble_eq_true rfl) dX6_measure_19 (fun H locs hw => ?_)
      refine r_aload0 C hl 0 rfl dX6_measure_22 ?_
      refine r_get C hw _ (gx_t (gx_h tO_o)) 1 fl_X6_15 rfl dX6_measure_23 ?_
      refine r_iload0 C hl 1 rfl dX6_measure_26 ?_
      refine r_aload0 C hl 2 rfl dX6_measure_27 ?_
      refine r_get C hw _ (gx_h cO_o) 1 fl_X6_60 rfl dX6_measure_28 ?_
      refine lv_iconst (v := 0) C.1 C.2.1 dX6_measure_31 (by decide) ?_
      obtain ⟨v2_, e2, hf⟩ := bx hf
      refine r_iald C hw _ (gx_h cO_g1) e2 dX6_measure_32 ?_
      obtain ⟨t_ad3, e3, hf⟩ := bx hf
      refine r_iast C hw _ (gx_t (gx_h tO_g1)) e3 (cO G ac u1 ++ (tO G ad t_ad3 ++ (eO G ad e_ad ++ []))) (fun h => (sx_t (sx_h tO_g1 (tO_s1 h)))) dX6_measure_33 (fun H locs hw => ?_)
      exact fin_v C hw (Option.some.inj hf) (fun o => (cO G ac o.1 ++ (tO G ad o.2 ++ (eO G ad e_ad ++ [])))) rfl dX6_measure_34
set_option maxHeartbeats 4000000 in
set_option maxRecDepth 100000 in
theorem c_X6_copyFrom (l : Launch) (G : GG) (ad : Nat → Nat) (aa : Nat → Nat) (sz : Nat) (t_aa : Pic) (t_ad : Pic) (p_aa : Pic) (p_ad : Pic) (z_aa : Pic) (z_ad : Pic) (e_aa : Pic) (e_ad : Pic)  (out : Pic × Pic × Pic × Pic) (hf : f_X6_copyFrom t_aa t_ad p_aa p_ad z_aa z_ad e_aa e_ad = some out) : Met l yX6_copyFrom (.code yX6_copyFrom cX6_copyFrom 2 none :: BT) ({ frames := 3, cells := 0, slots := 0, locals := 68 }) (va_Pc [.ref (ad 299), .ref (aa 299)] (PreW G sz (tO G aa t_aa ++ (tO G ad t_ad ++ (pO G aa p_aa ++ (pO G ad p_ad ++ (zO G aa z_aa ++ (zO G ad z_ad ++ (eO G aa e_aa ++ (eO G ad e_ad ++ [])))))))))) (Don G (va_A (tO G aa t_aa ++ (tO G ad t_ad ++ (pO G aa p_aa ++ (pO G ad p_ad ++ (zO G aa z_aa ++ (zO G ad z_ad ++ (eO G aa e_aa ++ (eO G ad e_ad ++ [])))))))) sz) (tO G aa t_aa ++ (tO G ad out.1 ++ (pO G aa p_aa ++ (pO G ad out.2.1 ++ (zO G aa z_aa ++ (zO G ad out.2.2.1 ++ (eO G aa e_aa ++ (eO G ad out.2.2.2 ++ []))))))))) 0 0 (va_A (tO G aa t_aa ++ (tO G ad t_ad ++ (pO G aa p_aa ++ (pO G ad p_ad ++ (zO G aa z_aa ++ (zO G ad z_ad ++ (eO G aa e_aa ++ (eO G ad e_ad ++ [])))))))) sz) := by
  refine Met.into (by decide) (Nat.le_of_ble_eq_true rfl) ?_
  intro p e s m below meth c C hsz ls hl hw
  have hl : lv_has ls 2 [(0, .ref (ad 299)), (1, .ref (aa 299))] := hl
  clear hsz
  generalize va_A (tO G aa t_aa ++ (tO G ad t_ad ++ (pO G aa p_aa ++ (pO G ad p_ad ++ (zO G aa z_aa ++ (zO G ad z_ad ++ (eO G aa e_aa ++ (eO G ad e_ad ++ [])))))))) sz = A at hw ⊢
  unfold f_X6_copyFrom at hf
  refine r_aload0 C hl 1 rfl dX6_copyFrom_0 ?_
  refine r_get C hw _ (gx_h tO_o) 0 fl_X6_9 rfl dX6_copyFrom_1 ?_
  refine lv_iconst (v := 0) C.1 C.2.1 dX6_copyFrom_4 (by decide) ?_
  refine r_aload0 C hl 0 rfl dX6_copyFrom_5 ?_
  refine r_get C hw _ (gx_t (gx_h tO_o)) 0 fl_X6_9 rfl dX6_copyFrom_6 ?_
  refine lv_iconst (v := 0) C.1 C.2.1 dX6_copyFrom_9 (by decide) ?_
  refine lv_sipush (v := 160) C.1 C.2.1 dX6_copyFrom_10 (by decide) ?_
  obtain ⟨e_ad1, e1, hf⟩ := bx hf
  refine r_copy C hw hl.1 acl_X6_28 _ _ (gx_t (gx_t (gx_t (gx_t (gx_t (gx_t (gx_h eO_g0))))))) (gx_t (gx_t (gx_t (gx_t (gx_t (gx_t (gx_t (gx_h eO_g0)))))))) e1 (tO G aa t_aa ++ (tO G ad t_ad ++ (pO G aa p_aa ++ (pO G ad p_ad ++ (zO G aa z_aa ++ (zO G ad z_ad ++ (eO G aa e_aa ++ (eO G ad e_ad1 ++ [])))))))) (fun h => (sx_t (sx_t (sx_t (sx_t (sx_t (sx_t (sx_t (sx_h eO_g0 (eO_s0 h)))))))))) (Nat.le_of_ble_eq_true rfl) (Nat.le_of_ble_eq_true rfl) dX6_copyFrom_13 (fun H locs hw => ?_)
  refine r_aload0 C hl 1 rfl dX6_copyFrom_16 ?_
  refine r_get C hw _ (gx_h tO_o) 1 fl_X6_15 rfl dX6_copyFrom_17 ?_
  refine lv_iconst (v := 0) C.1 C.2.1 dX6_copyFrom_20 (by decide) ?_
  refine r_aload0 C hl 0 rfl dX6_copyFrom_21 ?_
  refine r_get C hw _ (gx_t (gx_h tO_o)) 1 fl_X6_15 rfl dX6_copyFrom_22 ?_
  refine lv_iconst (v := 0) C.1 C.2.1 dX6_copyFrom_25 (by decide) ?_
  refine lv_bipush (v := 10) C.1 C.2.1 dX6_copyFrom_26 (by decide) ?_
  obtain ⟨t_ad2, e2, hf⟩ := bx hf
  refine r_copy C hw hl.1 acl_X6_28 _ _ (gx_h tO_g1) (gx_t (gx_h tO_g1)) e2 (tO G aa t_aa ++ (tO G ad t_ad2 ++ (pO G aa p_aa ++ (pO G ad p_ad ++ (zO G aa z_aa ++ (zO G ad z_ad ++ (eO G aa e_aa ++ (eO G ad e_ad1 ++ [])))))))) (fun h => (sx_t (sx_h tO_g1 (tO_s1 h)))) (Nat.le_of_ble_eq_true rfl) (Nat.le_of_ble_eq_true rfl) dX6_copyFrom_28 (fun H locs hw => ?_)
  refine r_aload0 C hl 0 rfl dX6_copyFrom_31 ?_
  refine r_get C hw _ (gx_t (gx_h tO_o)) 2 fl_X6_21 rfl dX6_copyFrom_32 ?_
  refine r_aload0 C hl 1 rfl dX6_copyFrom_35 ?_
  refine r_get C hw _ (gx_h tO_o) 2 fl_X6_21 rfl dX6_copyFrom_36 ?_
  obtain ⟨u3, e3, hf⟩ := bx hf
  refine r_callVv (ws' := (tO G aa t_aa ++ (tO G ad t_ad2 ++ (pO G aa p_aa ++ (pO G ad u3.1 ++ (zO G aa z_aa ++ (zO G ad u3.2 ++ (eO G aa e_aa ++ (eO G ad e_ad1 ++ []))))))))) (As := [.ref (aa 99)]) (rest := []) C hw hl.1 kX3_copyFrom ml_X6_63 (c_X3_copyFrom l G ad aa _ p_aa p_ad z_aa z_ad u3 e3) (CutX.skip (CutX.skip (CutX.take pO_f (CutX.take pO_f (CutX.take zO_f (CutX.take zO_f CutX.none)))))) _ (gx_t (gx_t (gx_t (gx_h pO_o)))) rfl ⟨rfl, rfl⟩ ⟨Nat.le_of_ble_eq_true rfl, Nat.le_of_ble_eq_true rfl⟩ rfl ⟨Nat.zero_le _, Nat.zero_le _⟩ rfl (Nat.le_of_ble_eq_true rfl) dX6_copyFrom_39 (fun H locs hw => ?_)
  exact fin_v C hw (Option.some.inj hf) (fun o => (tO G aa t_aa ++ (tO G ad o.1 ++ (pO G aa p_aa ++ (pO G ad o.2.1 ++ (zO G aa z_aa ++ (zO G ad o.2.2.1 ++ (eO G aa e_aa ++ (eO G ad o.2.2.2 ++ []))))))))) rfl dX6_copyFrom_42
set_option maxHeartbeats 4000000 in
set_option maxRecDepth 100000 in
theorem c_X6_begin (l : Launch) (G : GG) (ad : Nat → Nat) (as_ : Nat → Nat) (ac : Nat → Nat) (sz : Nat) (s_as_ : Pic) (c_ac : Pic) (t_ad : Pic) (p_ad : Pic) (z_ad : Pic) (e_ad : Pic)  (out : Pic × Pic × Pic × Pic × Pic) (hf : f_X6_begin s_as_ c_ac t_ad p_ad z_ad e_ad = some out) : Met l yX6_begin (.code yX6_begin cX6_begin 4 none :: BT) ({ frames := 5, cells := 0, slots := 0, locals := 117 }) (va_Pc [.ref (ad 299), .ref (as_ 99), .ref (ac 99)] (PreW G sz (sO G as_ s_as_ ++ (cO G ac c_ac ++ (tO G ad t_ad ++ (pO G ad p_ad ++ (zO G ad z_ad ++ (eO G ad e_ad ++ [])))))))) (Don G (va_A (sO G as_ s_as_ ++ (cO G ac c_ac ++ (tO G ad t_ad ++ (pO G ad p_ad ++ (zO G ad z_ad ++ (eO G ad e_ad ++ [])))))) sz) (sO G as_ s_as_ ++ (cO G ac out.1 ++ (tO G ad out.2.1 ++ (pO G ad out.2.2.1 ++ (zO G ad out.2.2.2.1 ++ (eO G ad out.2.2.2.2 ++ []))))))) 0 0 (va_A (sO G as_ s_as_ ++ (cO G ac c_ac ++ (tO G ad t_ad ++ (pO G ad p_ad ++ (zO G ad z_ad ++ (eO G ad e_ad ++ [])))))) sz) := by
  refine Met.into (by decide) (Nat.le_of_ble_eq_true rfl) ?_
  intro p e s m below meth c C hsz ls hl hw
  have hl : lv_has ls 4 [(0, .ref (ad 299)), (1, .ref (as_ 99)), (2, .ref (ac 99))] := hl
  clear hsz
  generalize va_A (sO G as_ s_as_ ++ (cO G ac c_ac ++ (tO G ad t_ad ++ (pO G ad p_ad ++ (zO G ad z_ad ++ (eO G ad e_ad ++ [])))))) sz = A at hw ⊢
  have hB_18 : ∀ (k18 : Pic → Pic → Pic → Pic → Pic → Int32 → Option (Pic × Pic × Pic × Pic × Pic)) (hk18 : ∀ (c_ac : Pic) (t_ad : Pic) (p_ad : Pic) (z_ad : Pic) (e_ad : Pic) (v3 : Int32), k18 c_ac t_ad p_ad z_ad e_ad v3 = some out → ∀ (H : Heap) (locs : List Loc), Wd G A s H locs (sO G as_ s_as_ ++ (cO G ac c_ac ++ (tO G ad t_ad ++ (pO G ad p_ad ++ (zO G ad z_ad ++ (eO G ad e_ad ++ [])))))) → ∀ ls : Array Slot, lv_has ls 4 [(0, .ref (ad 299)), (1, .ref (as_ 99)), (2, .ref (ac 99)), (3, .int v3)] → W p l e ({ frames := 5, cells := 0, slots := 0, locals := 117 }) s m [.ref (ad 299), .ref (as_ 99), .ref (ac 99)].toArray below meth c H locs 0 0 (MQ below (Don G A (sO G as_ s_as_ ++ (cO G ac out.1 ++ (tO G ad out.2.1 ++ (pO G ad out.2.2.1 ++ (zO G ad out.2.2.2.1 ++ (eO G ad out.2.2.2.2 ++ []))))))) [.ref (ad 299), .ref (as_ 99), .ref (ac 99)].toArray s 0 0 A) (F0 m 18 ls [])), ∀ (c_ac : Pic) (t_ad : Pic) (p_ad : Pic) (z_ad : Pic) (e_ad : Pic) (v3 : Int32), b_X6_begin_18 s_as_ k18 c_ac t_ad p_ad z_ad e_ad v3 = some out → ∀ (H : Heap) (locs : List Loc), Wd G A s H locs (sO G as_ s_as_ ++ (cO G ac c_ac ++ (tO G ad t_ad ++ (pO G ad p_ad ++ (zO G ad z_ad ++ (eO G ad e_ad ++ [])))))) → ∀ ls : Array Slot, lv_has ls 4 [(0, .ref (ad 299)), (1, .ref (as_ 99)), (2, .ref (ac 99)), (3, .int v3)] → W p l e ({ frames := 5, cells := 0, slots := 0, locals := 117 }) s m [.ref (ad 299), .ref (as_ 99), .ref (ac 99)].toArray below meth c H locs 0 0 (MQ below (Don G A (sO G as_ s_as_ ++ (cO G ac out.1 ++ (tO G ad out.2.1 ++ (pO G ad out.2.2.1 ++ (zO G ad out.2.2.2.1 ++ (eO G ad out.2.2.2.2 ++ []))))))) [.ref (ad 299), .ref (as_ 99), .ref (ac 99)].toArray s 0 0 A) (F0 m 18 ls []) := by
    intro k18 hk18 c_ac t_ad p_ad z_ad e_ad v3 hf H locs hw ls hl
    unfold b_X6_begin_18 at hf
    refine r_iload0 C hl 3 rfl dX6_begin_18 ?_
    refine r_aload0 C hl 1 rfl dX6_begin_19 ?_
    refine r_get C hw _ (gx_h sO_o) 3 fl_X6_34 rfl dX6_begin_20 ?_
    refine lv_icmp_ge (tgt := 38) C.1 C.2.1 dX6_begin_23 (by decide) (fun hc => ?_) (fun hc => ?_)
    · replace hf := ifp hf hc
      refine r_aload0 C hl 0 rfl dX6_begin_38 ?_
      refine r_get C hw _ (gx_t (gx_t (gx_h tO_o))) 2 fl_X6_21 rfl dX6_begin_39 ?_
      refine r_aload0 C hl 1 rfl dX6_begin_42 ?_
      refine r_get C hw _ (gx_h sO_o) 0 fl_X6_42 rfl dX6_begin_43 ?_
      refine r_aload0 C hl 1 rfl dX6_begin_46 ?_
      refine r_get C hw _ (gx_h sO_o) 1 fl_X6_45 rfl dX6_begin_47 ?_
      refine r_aload0 C hl 1 rfl dX6_begin_50 ?_
      refine r_get C hw _ (gx_h sO_o) 2 fl_X6_48 rfl dX6_begin_51 ?_
      obtain ⟨u2, e2, hf⟩ := bx hf
      refine r_callVv (ws' := (sO G as_ s_as_ ++ (cO G ac c_ac ++ (tO G ad t_ad ++ (pO G ad u2.1 ++ (zO G ad u2.2 ++ (eO G ad e_ad ++ []))))))) (As := [.int (gS s_as_ 0), .int (gS s_as_ 1), .int (gS s_as_ 2)]) (rest := []) C hw hl.1 kX3_begin ml_X6_51 (c_X3_begin l G ad _ p_ad z_ad (gS s_as_ 0) (gS s_as_ 1) (gS s_as_ 2) u2 e2) (CutX.skip (CutX.skip (CutX.skip (CutX.take pO_f (CutX.take zO_f CutX.none))))) _ (gx_t (gx_t (gx_t (gx_h pO_o)))) rfl ⟨rfl, rfl⟩ ⟨Nat.le_of_ble_eq_true rfl, Nat.le_of_ble_eq_true rfl⟩ rfl ⟨Nat.zero_le _, Nat.zero_le _⟩ rfl (Nat.le_of_ble_eq_true rfl) dX6_begin_54 (fun H locs hw => ?_)
      exact fin_v C hw (Option.some.inj hf) (fun o => (sO G as_ s_as_ ++ (cO G ac o.1 ++ (tO G ad o.2.1 ++ (pO G ad o.2.2.1 ++ (zO G ad o.2.2.2.1 ++ (eO G ad o.2.2.2.2 ++ []))))))) rfl dX6_begin_57
    · replace hf := ifn hf hc
      refine r_aload0 C hl 0 rfl dX6_begin_26 ?_
      refine r_iload0 C hl 3 rfl dX6_begin_27 ?_
      refine r_aload0 C hl 2 rfl dX6_begin_28 ?_
      obtain ⟨u3, e3, hf⟩ := bx hf
      refine r_callVv (ws' := (sO G as_ s_as_ ++ (cO G ac u3.1 ++ (tO G ad u3.2 ++ (pO G ad p_ad ++ (zO G ad z_ad ++ (eO G ad e_ad ++ []))))))) (As := [.int v3, .ref (ac 99)]) (rest := []) C hw hl.1 kX6_measure ml_X6_38 (c_X6_measure l G ad ac _ c_ac t_ad e_ad v3 u3 e3) (CutX.skip (CutX.take cO_f (CutX.take tO_f (CutX.skip (CutX.skip (CutX.take eO_f CutX.none)))))) _ (gx_t (gx_t (gx_h tO_o))) rfl ⟨rfl, rfl⟩ ⟨Nat.le_of_ble_eq_true rfl, Nat.le_of_ble_eq_true rfl⟩ rfl ⟨Nat.zero_le _, Nat.zero_le _⟩ rfl (Nat.le_of_ble_eq_true rfl) dX6_begin_29 (fun H locs hw => ?_)
      refine r_iinc C hl 3 (v3 + 1) [(3, .int (v3 + 1)), (0, .ref (ad 299)), (1, .ref (as_ 99)), (2, .ref (ac 99))] rfl (iinc_e (by decide)) (by decide) rfl dX6_begin_32 (fun ls hl => ?_)
      refine lv_goto (tgt := 18) C.1 C.2.1 dX6_begin_35 (by decide) ?_
      exact hk18 u3.1 u3.2 p_ad z_ad e_ad (v3 + 1) hf _ _ hw _ (lv_sub hl [1, 2, 3, 0] rfl)
  have hL_18 : ∀ n : Nat, ∀ (c_ac : Pic) (t_ad : Pic) (p_ad : Pic) (z_ad : Pic) (e_ad : Pic) (v3 : Int32), L_X6_begin_18 s_as_  n c_ac t_ad p_ad z_ad e_ad v3 = some out → ∀ (H : Heap) (locs : List Loc), Wd G A s H locs (sO G as_ s_as_ ++ (cO G ac c_ac ++ (tO G ad t_ad ++ (pO G ad p_ad ++ (zO G ad z_ad ++ (eO G ad e_ad ++ [])))))) → ∀ ls : Array Slot, lv_has ls 4 [(0, .ref (ad 299)), (1, .ref (as_ 99)), (2, .ref (ac 99)), (3, .int v3)] → W p l e ({ frames := 5, cells := 0, slots := 0, locals := 117 }) s m [.ref (ad 299), .ref (as_ 99), .ref (ac 99)].toArray below meth c H locs 0 0 (MQ below (Don G A (sO G as_ s_as_ ++ (cO G ac out.1 ++ (tO G ad out.2.1 ++ (pO G ad out.2.2.1 ++ (zO G ad out.2.2.2.1 ++ (eO G ad out.2.2.2.2 ++ []))))))) [.ref (ad 299), .ref (as_ 99), .ref (ac 99)].toArray s 0 0 A) (F0 m 18 ls []) := by
    intro  n
    induction n with
    | zero => intro c_ac t_ad p_ad z_ad e_ad v3 hf; cases hf
    | succ n ih => exact hB_18 _ ih
  unfold f_X6_begin at hf
  refine r_aload0 C hl 1 rfl dX6_begin_0 ?_
  refine r_get C hw _ (gx_h sO_o) 5 fl_X6_25 rfl dX6_begin_1 ?_
  refine lv_iconst (v := 0) C.1 C.2.1 dX6_begin_4 (by decide) ?_
  refine r_aload0 C hl 0 rfl dX6_begin_5 ?_
  refine r_get C hw _ (gx_t (gx_t (gx_h tO_o))) 0 fl_X6_9 rfl dX6_begin_6 ?_
  refine lv_iconst (v := 0) C.1 C.2.1 dX6_begin_9 (by decide) ?_
  refine lv_sipush (v := 160) C.1 C.2.1 dX6_begin_10 (by decide) ?_
  obtain ⟨e_ad1, e1, hf⟩ := bx hf
  refine r_copy C hw hl.1 acl_X6_28 _ _ (gx_h sO_g5) (gx_t (gx_t (gx_t (gx_t (gx_t (gx_h eO_g0)))))) e1 (sO G as_ s_as_ ++ (cO G ac c_ac ++ (tO G ad t_ad ++ (pO G ad p_ad ++ (zO G ad z_ad ++ (eO G ad e_ad1 ++ [])))))) (fun h => (sx_t (sx_t (sx_t (sx_t (sx_t (sx_h eO_g0 (eO_s0 h)))))))) (Nat.le_of_ble_eq_true rfl) (Nat.le_of_ble_eq_true rfl) dX6_begin_13 (fun H locs hw => ?_)
  refine lv_iconst (v := 0) C.1 C.2.1 dX6_begin_16 (by decide) ?_
  refine r_istore0 C hl [(3, .int 0), (0, .ref (ad 299)), (1, .ref (as_ 99)), (2, .ref (ac 99))] (by decide) rfl dX6_begin_17 (fun ls hl => ?_)
  exact hL_18  FU c_ac t_ad p_ad z_ad e_ad1 0 hf _ _ hw _ (lv_sub hl [1, 2, 3, 0] rfl)
