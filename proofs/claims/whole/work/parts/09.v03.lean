set_option maxHeartbeats 4000000 in
set_option maxRecDepth 100000 in
theorem ci_X5 (l : Launch) (G : GG) (h sz : Nat) : Met l yX5_init (.code yX5_init cX5_init 1 none :: BT) ({ frames := 1, cells := 4, slots := 232, locals := 12 }) (va_Pc [.ref h] (PreN G sz (cB h 4 [.int 0, .int 0, .int 0, .int 0, .int 0, .null, .null, .null, .null]))) (Born G (fun u => sO G u PL ++ []) 99 h (va_A (cB h 4 [.int 0, .int 0, .int 0, .int 0, .int 0, .null, .null, .null, .null]) sz)) 4 232 (va_A (cB h 4 [.int 0, .int 0, .int 0, .int 0, .int 0, .null, .null, .null, .null]) sz) := by
  refine Met.intoC (by decide) rfl (Nat.le_of_ble_eq_true rfl) ?_
  intro p e s m below meth c C hin hq ls hl hw
  have hl : lv_has ls 1 [(0, .ref h)] := hl
  generalize va_A (cB h 4 [.int 0, .int 0, .int 0, .int 0, .int 0, .null, .null, .null, .null]) sz = A at hw ⊢
  have hw : Wd G A s s.heap [] ((cB h 4 [.int 0, .int 0, .int 0, .int 0, .int 0, .null, .null, .null, .null]) ++ []) := hw
  refine r_aload0 C hl 0 rfl dX5_init_0 ?_
  refine r_objI C hl.1 obl_X5 (Nat.le_of_ble_eq_true rfl) (Nat.le_of_ble_eq_true rfl) dX5_init_1 ?_
  refine r_aload0 C hl 0 rfl dX5_init_4 ?_
  refine lv_iconst (v := 1) C.1 C.2.1 dX5_init_5 (by decide) ?_
  refine r_put C hw _ (gx_h gB) 0 fp_X5_9 rfl rfl (Nat.le_of_ble_eq_true rfl) (cB h 4 [.int 1, .int 0, .int 0, .int 0, .int 0, .null, .null, .null, .null] ++ []) (sx_h gB sB) dX5_init_6 (fun H locs hw => ?_)
  refine r_aload0 C hl 0 rfl dX5_init_9 ?_
  refine lv_iconst (v := 1) C.1 C.2.1 dX5_init_10 (by decide) ?_
  refine r_put C hw _ (gx_h gB) 1 fp_X5_15 rfl rfl (Nat.le_of_ble_eq_true rfl) (cB h 4 [.int 1, .int 1, .int 0, .int 0, .int 0, .null, .null, .null, .null] ++ []) (sx_h gB sB) dX5_init_11 (fun H locs hw => ?_)
  refine r_aload0 C hl 0 rfl dX5_init_14 ?_
  refine lv_bipush (v := 15) C.1 C.2.1 dX5_init_15 (by decide) ?_
  refine r_put C hw _ (gx_h gB) 2 fp_X5_18 rfl rfl (Nat.le_of_ble_eq_true rfl) (cB h 4 [.int 1, .int 1, .int 15, .int 0, .int 0, .null, .null, .null, .null] ++ []) (sx_h gB sB) dX5_init_17 (fun H locs hw => ?_)
  refine r_aload0 C hl 0 rfl dX5_init_20 ?_
  refine lv_sipush (v := 160) C.1 C.2.1 dX5_init_21 (by decide) ?_
  refine r_newI C hw 160 (by decide) (by decide) (by decide) (Nat.le_of_ble_eq_true rfl) (Nat.le_of_ble_eq_true rfl) dX5_init_24 (fun q1 => cB h 4 [.int 1, .int 1, .int 15, .int 0, .int 0, .null, .null, .null, .null] ++ (cA q1 G.2.1 160 ++ [])) (fun _ => by simp only [List.append_assoc, List.nil_append, List.append_nil]) (fun q1 H hw => ?_)
  have hw : Wd G A s H _ (cB h 4 [.int 1, .int 1, .int 15, .int 0, .int 0, .null, .null, .null, .null] ++ (cA q1 G.2.1 160 ++ [])) := hw
  refine r_putF C hin hw (gx_h gB) 5 (FL.final (ty := (.array .int)) tyX5 fl_X5_21 rfl tyX5_ok nmX5 rfl (by decide +kernel) rfl) rfl rfl (Nat.le_of_ble_eq_true rfl) (cB h 4 [.int 1, .int 1, .int 15, .int 0, .int 0, .ref q1, .null, .null, .null] ++ (cA q1 G.2.1 160 ++ [])) (sx_h gB sB) dX5_init_26 (fun H locs hw => ?_)
  refine r_aload0 C hl 0 rfl dX5_init_29 ?_
  refine lv_bipush (v := 24) C.1 C.2.1 dX5_init_30 (by decide) ?_
  refine r_newI C hw 24 (by decide) (by decide) (by decide) (Nat.le_of_ble_eq_true rfl) (Nat.le_of_ble_eq_true rfl) dX5_init_32 (fun q2 => cB h 4 [.int 1, .int 1, .int 15, .int 0, .int 0, .ref q1, .null, .null, .null] ++ (cA q1 G.2.1 160 ++ (cA q2 G.2.1 24 ++ []))) (fun _ => by simp only [List.append_assoc, List.nil_append, List.append_nil]) (fun q2 H hw => ?_)
  have hw : Wd G A s H _ (cB h 4 [.int 1, .int 1, .int 15, .int 0, .int 0, .ref q1, .null, .null, .null] ++ (cA q1 G.2.1 160 ++ (cA q2 G.2.1 24 ++ []))) := hw
  refine r_putF C hin hw (gx_h gB) 6 (FL.final (ty := (.array .int)) tyX5 fl_X5_25 rfl tyX5_ok nmX5 rfl (by decide +kernel) rfl) rfl rfl (Nat.le_of_ble_eq_true rfl) (cB h 4 [.int 1, .int 1, .int 15, .int 0, .int 0, .ref q1, .ref q2, .null, .null] ++ (cA q1 G.2.1 160 ++ (cA q2 G.2.1 24 ++ []))) (sx_h gB sB) dX5_init_34 (fun H locs hw => ?_)
  refine r_aload0 C hl 0 rfl dX5_init_37 ?_
  refine lv_bipush (v := 24) C.1 C.2.1 dX5_init_38 (by decide) ?_
  refine r_newI C hw 24 (by decide) (by decide) (by decide) (Nat.le_of_ble_eq_true rfl) (Nat.le_of_ble_eq_true rfl) dX5_init_40 (fun q3 => cB h 4 [.int 1, .int 1, .int 15, .int 0, .int 0, .ref q1, .ref q2, .null, .null] ++ (cA q1 G.2.1 160 ++ (cA q2 G.2.1 24 ++ (cA q3 G.2.1 24 ++ [])))) (fun _ => by simp only [List.append_assoc, List.nil_append, List.append_nil]) (fun q3 H hw => ?_)
  have hw : Wd G A s H _ (cB h 4 [.int 1, .int 1, .int 15, .int 0, .int 0, .ref q1, .ref q2, .null, .null] ++ (cA q1 G.2.1 160 ++ (cA q2 G.2.1 24 ++ (cA q3 G.2.1 24 ++ [])))) := hw
  refine r_putF C hin hw (gx_h gB) 7 (FL.final (ty := (.array .int)) tyX5 fl_X5_28 rfl tyX5_ok nmX5 rfl (by decide +kernel) rfl) rfl rfl (Nat.le_of_ble_eq_true rfl) (cB h 4 [.int 1, .int 1, .int 15, .int 0, .int 0, .ref q1, .ref q2, .ref q3, .null] ++ (cA q1 G.2.1 160 ++ (cA q2 G.2.1 24 ++ (cA q3 G.2.1 24 ++ [])))) (sx_h gB sB) dX5_init_42 (fun H locs hw => ?_)
  refine r_aload0 C hl 0 rfl dX5_init_45 ?_
  refine lv_bipush (v := 24) C.1 C.2.1 dX5_init_46 (by decide) ?_
  refine r_newI C hw 24 (by decide) (by decide) (by decide) (Nat.le_of_ble_eq_true rfl) (Nat.le_of_ble_eq_true rfl) dX5_init_48 (fun q4 => cB h 4 [.int 1, .int 1, .int 15, .int 0, .int 0, .ref q1, .ref q2, .ref q3, .null] ++ (cA q1 G.2.1 160 ++ (cA q2 G.2.1 24 ++ (cA q3 G.2.1 24 ++ (cA q4 G.2.1 24 ++ []))))) (fun _ => by simp only [List.append_assoc, List.nil_append, List.append_nil]) (fun q4 H hw => ?_)
  have hw : Wd G A s H _ (cB h 4 [.int 1, .int 1, .int 15, .int 0, .int 0, .ref q1, .ref q2, .ref q3, .null] ++ (cA q1 G.2.1 160 ++ (cA q2 G.2.1 24 ++ (cA q3 G.2.1 24 ++ (cA q4 G.2.1 24 ++ []))))) := hw
  refine r_putF C hin hw (gx_h gB) 8 (FL.final (ty := (.array .int)) tyX5 fl_X5_31 rfl tyX5_ok nmX5 rfl (by decide +kernel) rfl) rfl rfl (Nat.le_of_ble_eq_true rfl) (cB h 4 [.int 1, .int 1, .int 15, .int 0, .int 0, .ref q1, .ref q2, .ref q3, .ref q4] ++ (cA q1 G.2.1 160 ++ (cA q2 G.2.1 24 ++ (cA q3 G.2.1 24 ++ (cA q4 G.2.1 24 ++ []))))) (sx_h gB sB) dX5_init_50 (fun H locs hw => ?_)
  refine W.widen (k := 4) (n := 232) (Nat.le_of_ble_eq_true rfl) (Nat.le_of_ble_eq_true rfl) ?_
  exact r_born (zf := fun u => sO G u PL ++ []) (ob := 99) C hw (fun k => if k = 99 then h else if k = 5 then q1 else if k = 6 then q2 else if k = 7 then q3 else q4) rfl [0, 1, 2, 3, 4] (by decide) rfl dX5_init_53
