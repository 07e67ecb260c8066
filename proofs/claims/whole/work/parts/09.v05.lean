set_option maxHeartbeats 4000000 in
set_option maxRecDepth 100000 in
theorem ci_X1 (l : Launch) (G : GG) (h sz : Nat) : Met l yX1_init (.code yX1_init cX1_init 1 none :: BT) ({ frames := 1, cells := 7, slots := 114, locals := 12 }) (va_Pc [.ref h] (PreN G sz (cB h 0 [.null, .null, .null, .null, .null, .null, .null, .int 0]))) (Born G (fun u => cO G u P0 ++ []) 99 h (va_A (cB h 0 [.null, .null, .null, .null, .null, .null, .null, .int 0]) sz)) 7 114 (va_A (cB h 0 [.null, .null, .null, .null, .null, .null, .null, .int 0]) sz) := by
  refine Met.intoC (by decide) rfl (Nat.le_of_ble_eq_true rfl) ?_
  intro p e s m below meth c C hin hq ls hl hw
  have hl : lv_has ls 1 [(0, .ref h)] := hl
  generalize va_A (cB h 0 [.null, .null, .null, .null, .null, .null, .null, .int 0]) sz = A at hw ⊢
  have hw : Wd G A s s.heap [] ((cB h 0 [.null, .null, .null, .null, .null, .null, .null, .int 0]) ++ []) := hw
  refine r_aload0 C hl 0 rfl dX1_init_0 ?_
  refine r_objI C hl.1 obl_X1 (Nat.le_of_ble_eq_true rfl) (Nat.le_of_ble_eq_true rfl) dX1_init_1 ?_
  refine r_aload0 C hl 0 rfl dX1_init_4 ?_
  refine lv_bipush (v := 16) C.1 C.2.1 dX1_init_5 (by decide) ?_
  refine r_newI C hw 16 (by decide) (by decide) (by decide) (Nat.le_of_ble_eq_true rfl) (Nat.le_of_ble_eq_true rfl) dX1_init_7 (fun q1 => cB h 0 [.null, .null, .null, .null, .null, .null, .null, .int 0] ++ (cA q1 G.2.1 16 ++ [])) (fun _ => by simp only [List.append_assoc, List.nil_append, List.append_nil]) (fun q1 H hw => ?_)
  have hw : Wd G A s H _ (cB h 0 [.null, .null, .null, .null, .null, .null, .null, .int 0] ++ (cA q1 G.2.1 16 ++ [])) := hw
  refine r_putF C hin hw (gx_h gB) 0 (FL.final (ty := (.array .int)) tyX1 fl_X1_9 rfl tyX1_ok nmX1 rfl (by decide +kernel) rfl) rfl rfl (Nat.le_of_ble_eq_true rfl) (cB h 0 [.ref q1, .null, .null, .null, .null, .null, .null, .int 0] ++ (cA q1 G.2.1 16 ++ [])) (sx_h gB sB) dX1_init_9 (fun H locs hw => ?_)
  refine r_aload0 C hl 0 rfl dX1_init_12 ?_
  refine lv_bipush (v := 17) C.1 C.2.1 dX1_init_13 (by decide) ?_
  refine r_newI C hw 17 (by decide) (by decide) (by decide) (Nat.le_of_ble_eq_true rfl) (Nat.le_of_ble_eq_true rfl) dX1_init_15 (fun q2 => cB h 0 [.ref q1, .null, .null, .null, .null, .null, .null, .int 0] ++ (cA q1 G.2.1 16 ++ (cA q2 G.2.1 17 ++ []))) (fun _ => by simp only [List.append_assoc, List.nil_append, List.append_nil]) (fun q2 H hw => ?_)
  have hw : Wd G A s H _ (cB h 0 [.ref q1, .null, .null, .null, .null, .null, .null, .int 0] ++ (cA q1 G.2.1 16 ++ (cA q2 G.2.1 17 ++ []))) := hw
  refine r_putF C hin hw (gx_h gB) 1 (FL.final (ty := (.array .int)) tyX1 fl_X1_15 rfl tyX1_ok nmX1 rfl (by decide +kernel) rfl) rfl rfl (Nat.le_of_ble_eq_true rfl) (cB h 0 [.ref q1, .ref q2, .null, .null, .null, .null, .null, .int 0] ++ (cA q1 G.2.1 16 ++ (cA q2 G.2.1 17 ++ []))) (sx_h gB sB) dX1_init_17 (fun H locs hw => ?_)
  refine r_aload0 C hl 0 rfl dX1_init_20 ?_
  refine lv_bipush (v := 17) C.1 C.2.1 dX1_init_21 (by decide) ?_
  refine r_newI C hw 17 (by decide) (by decide) (by decide) (Nat.le_of_ble_eq_true rfl) (Nat.le_of_ble_eq_true rfl) dX1_init_23 (fun q3 => cB h 0 [.ref q1, .ref q2, .null, .null, .null, .null, .null, .int 0] ++ (cA q1 G.2.1 16 ++ (cA q2 G.2.1 17 ++ (cA q3 G.2.1 17 ++ [])))) (fun _ => by simp only [List.append_assoc, List.nil_append, List.append_nil]) (fun q3 H hw => ?_)
  have hw : Wd G A s H _ (cB h 0 [.ref q1, .ref q2, .null, .null, .null, .null, .null, .int 0] ++ (cA q1 G.2.1 16 ++ (cA q2 G.2.1 17 ++ (cA q3 G.2.1 17 ++ [])))) := hw
  refine r_putF C hin hw (gx_h gB) 2 (FL.final (ty := (.array .int)) tyX1 fl_X1_18 rfl tyX1_ok nmX1 rfl (by decide +kernel) rfl) rfl rfl (Nat.le_of_ble_eq_true rfl) (cB h 0 [.ref q1, .ref q2, .ref q3, .null, .null, .null, .null, .int 0] ++ (cA q1 G.2.1 16 ++ (cA q2 G.2.1 17 ++ (cA q3 G.2.1 17 ++ [])))) (sx_h gB sB) dX1_init_25 (fun H locs hw => ?_)
  refine r_aload0 C hl 0 rfl dX1_init_28 ?_
  refine lv_bipush (v := 16) C.1 C.2.1 dX1_init_29 (by decide) ?_
  refine r_newI C hw 16 (by decide) (by decide) (by decide) (Nat.le_of_ble_eq_true rfl) (Nat.le_of_ble_eq_true rfl) dX1_init_31 (fun q4 => cB h 0 [.ref q1, .ref q2, .ref q3, .null, .null, .null, .null, .int 0] ++ (cA q1 G.2.1 16 ++ (cA q2 G.2.1 17 ++ (cA q3 G.2.1 17 ++ (cA q4 G.2.1 16 ++ []))))) (fun _ => by simp only [List.append_assoc, List.nil_append, List.append_nil]) (fun q4 H hw => ?_)
  have hw : Wd G A s H _ (cB h 0 [.ref q1, .ref q2, .ref q3, .null, .null, .null, .null, .int 0] ++ (cA q1 G.2.1 16 ++ (cA q2 G.2.1 17 ++ (cA q3 G.2.1 17 ++ (cA q4 G.2.1 16 ++ []))))) := hw
  refine r_putF C hin hw (gx_h gB) 3 (FL.final (ty := (.array .int)) tyX1 fl_X1_21 rfl tyX1_ok nmX1 rfl (by decide +kernel) rfl) rfl rfl (Nat.le_of_ble_eq_true rfl) (cB h 0 [.ref q1, .ref q2, .ref q3, .ref q4, .null, .null, .null, .int 0] ++ (cA q1 G.2.1 16 ++ (cA q2 G.2.1 17 ++ (cA q3 G.2.1 17 ++ (cA q4 G.2.1 16 ++ []))))) (sx_h gB sB) dX1_init_33 (fun H locs hw => ?_)
  refine r_aload0 C hl 0 rfl dX1_init_36 ?_
  refine lv_bipush (v := 16) C.1 C.2.1 dX1_init_37 (by decide) ?_
  refine r_newI C hw 16 (by decide) (by decide) (by decide) (Nat.le_of_ble_eq_true rfl) (Nat.le_of_ble_eq_true rfl) dX1_init_39 (fun q5 => cB h 0 [.ref q1, .ref q2, .ref q3, .ref q4, .null, .null, .null, .int 0] ++ (cA q1 G.2.1 16 ++ (cA q2 G.2.1 17 ++ (cA q3 G.2.1 17 ++ (cA q4 G.2.1 16 ++ (cA q5 G.2.1 16 ++ [])))))) (fun _ => by simp only [List.append_assoc, List.nil_append, List.append_nil]) (fun q5 H hw => ?_)
  have hw : Wd G A s H _ (cB h 0 [.ref q1, .ref q2, .ref q3, .ref q4, .null, .null, .null, .int 0] ++ (cA q1 G.2.1 16 ++ (cA q2 G.2.1 17 ++ (cA q3 G.2.1 17 ++ (cA q4 G.2.1 16 ++ (cA q5 G.2.1 16 ++ [])))))) := hw
  refine r_putF C hin hw (gx_h gB) 4 (FL.final (ty := (.array .int)) tyX1 fl_X1_24 rfl tyX1_ok nmX1 rfl (by decide +kernel) rfl) rfl rfl (Nat.le_of_ble_eq_true rfl) (cB h 0 [.ref q1, .ref q2, .ref q3, .ref q4, .ref q5, .null, .null, .int 0] ++ (cA q1 G.2.1 16 ++ (cA q2 G.2.1 17 ++ (cA q3 G.2.1 17 ++ (cA q4 G.2.1 16 ++ (cA q5 G.2.1 16 ++ [])))))) (sx_h gB sB) dX1_init_41 (fun H locs hw => ?_)
  refine r_aload0 C hl 0 rfl dX1_init_44 ?_
  refine lv_bipush (v := 16) C.1 C.2.1 dX1_init_45 (by decide) ?_
  refine r_newI C hw 16 (by decide) (by decide) (by decide) (Nat.le_of_ble_eq_true rfl) (Nat.le_of_ble_eq_true rfl) dX1_init_47 (fun q6 => cB h 0 [.ref q1, .ref q2, .ref q3, .ref q4, .ref q5, .null, .null, .int 0] ++ (cA q1 G.2.1 16 ++ (cA q2 G.2.1 17 ++ (cA q3 G.2.1 17 ++ (cA q4 G.2.1 16 ++ (cA q5 G.2.1 16 ++ (cA q6 G.2.1 16 ++ []))))))) (fun _ => by simp only [List.append_assoc, List.nil_append, List.append_nil]) (fun q6 H hw => ?_)
  have hw : Wd G A s H _ (cB h 0 [.ref q1, .ref q2, .ref q3, .ref q4, .ref q5, .null, .null, .int 0] ++ (cA q1 G.2.1 16 ++ (cA q2 G.2.1 17 ++ (cA q3 G.2.1 17 ++ (cA q4 G.2.1 16 ++ (cA q5 G.2.1 16 ++ (cA q6 G.2.1 16 ++ []))))))) := hw
  refine r_putF C hin hw (gx_h gB) 5 (FL.final (ty := (.array .int)) tyX1 fl_X1_27 rfl tyX1_ok nmX1 rfl (by decide +kernel) rfl) rfl rfl (Nat.le_of_ble_eq_true rfl) (cB h 0 [.ref q1, .ref q2, .ref q3, .ref q4, .ref q5, .ref q6, .null, .int 0] ++ (cA q1 G.2.1 16 ++ (cA q2 G.2.1 17 ++ (cA q3 G.2.1 17 ++ (cA q4 G.2.1 16 ++ (cA q5 G.2.1 16 ++ (cA q6 G.2.1 16 ++ []))))))) (sx_h gB sB) dX1_init_49 (fun H locs hw => ?_)
  refine r_aload0 C hl 0 rfl dX1_init_52 ?_
  refine lv_bipush (v := 16) C.1 C.2.1 dX1_init_53 (by decide) ?_
  refine r_newI C hw 16 (by decide) (by decide) (by decide) (Nat.le_of_ble_eq_true rfl) (Nat.le_of_ble_eq_true rfl) dX1_init_55 (fun q7 => cB h 0 [.ref q1, .ref q2, .ref q3, .ref q4, .ref q5, .ref q6, .null, .int 0] ++ (cA q1 G.2.1 16 ++ (cA q2 G.2.1 17 ++ (cA q3 G.2.1 17 ++ (cA q4 G.2.1 16 ++ (cA q5 G.2.1 16 ++ (cA q6 G.2.1 16 ++ (cA q7 G.2.1 16 ++ [])))))))) (fun _ => by simp only [List.append_assoc, List.nil_append, List.append_nil]) (fun q7 H hw => ?_)
  have hw : Wd G A s H _ (cB h 0 [.ref q1, .ref q2, .ref q3, .ref q4, .ref q5, .ref q6, .null, .int 0] ++ (cA q1 G.2.1 16 ++ (cA q2 G.2.1 17 ++ (cA q3 G.2.1 17 ++ (cA q4 G.2.1 16 ++ (cA q5 G.2.1 16 ++ (cA q6 G.2.1 16 ++ (cA q7 G.2.1 16 ++ [])))))))) := hw
  refine r_putF C hin hw (gx_h gB) 6 (FL.final (ty := (.array .int)) tyX1 fl_X1_30 rfl tyX1_ok nmX1 rfl (by decide +kernel) rfl) rfl rfl (Nat.le_of_ble_eq_true rfl) (cB h 0 [.ref q1, .ref q2, .ref q3, .ref q4, .ref q5, .ref q6, .ref q7, .int 0] ++ (cA q1 G.2.1 16 ++ (cA q2 G.2.1 17 ++ (cA q3 G.2.1 17 ++ (cA q4 G.2.1 16 ++ (cA q5 G.2.1 16 ++ (cA q6 G.2.1 16 ++ (cA q7 G.2.1 16 ++ [])))))))) (sx_h gB sB) dX1_init_57 (fun H locs hw => ?_)
  refine W.widen (k := 7) (n := 114) (Nat.le_of_ble_eq_true rfl) (Nat.le_of_ble_eq_true rfl) ?_
  exact r_born (zf := fun u => cO G u P0 ++ []) (ob := 99) C hw (fun k => if k = 99 then h else if k = 0 then q1 else if k = 1 then q2 else if k = 2 then q3 else if k = 3 then q4 else if k = 4 then q5 else if k = 5 then q6 else q7) rfl [0, 1, 2, 3, 4, 5, 6, 7] (by decide) rfl dX1_init_60
