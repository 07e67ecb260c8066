set_option maxHeartbeats 4000000 in
set_option maxRecDepth 100000 in
theorem ci_X7 (l : Launch) (G : GG) (h sz : Nat) : Met l yX7_init (.code yX7_init cX7_init 1 none :: BT) ({ frames := 1, cells := 5, slots := 480, locals := 12 }) (va_Pc [.ref h] (PreN G sz (cB h 6 [.int 0, .null, .null, .null, .null, .null]))) (Born G (fun u => zO G u P0 ++ []) 199 h (va_A (cB h 6 [.int 0, .null, .null, .null, .null, .null]) sz)) 5 480 (va_A (cB h 6 [.int 0, .null, .null, .null, .null, .null]) sz) := by
  refine Met.intoC (by decide) rfl (Nat.le_of_ble_eq_true rfl) ?_
  intro p e s m below meth c C hin hq ls hl hw
  have hl : lv_has ls 1 [(0, .ref h)] := hl
  generalize va_A (cB h 6 [.int 0, .null, .null, .null, .null, .null]) sz = A at hw ⊢
  have hw : Wd G A s s.heap [] ((cB h 6 [.int 0, .null, .null, .null, .null, .null]) ++ []) := hw
  refine r_aload0 C hl 0 rfl dX7_init_0 ?_
  refine r_objI C hl.1 obl_X7 (Nat.le_of_ble_eq_true rfl) (Nat.le_of_ble_eq_true rfl) dX7_init_1 ?_
  refine r_aload0 C hl 0 rfl dX7_init_4 ?_
  refine lv_bipush (v := 24) C.1 C.2.1 dX7_init_5 (by decide) ?_
  refine r_newI C hw 24 (by decide) (by decide) (by decide) (Nat.le_of_ble_eq_true rfl) (Nat.le_of_ble_eq_true rfl) dX7_init_7 (fun q1 => cB h 6 [.int 0, .null, .null, .null, .null, .null] ++ (cA q1 G.2.1 24 ++ [])) (fun _ => by simp only [List.append_assoc, List.nil_append, List.append_nil]) (fun q1 H hw => ?_)
  have hw : Wd G A s H _ (cB h 6 [.int 0, .null, .null, .null, .null, .null] ++ (cA q1 G.2.1 24 ++ [])) := hw
  refine r_putF C hin hw (gx_h gB) 1 (FL.final (ty := (.array .int)) tyX7 fl_X7_9 rfl tyX7_ok nmX7 rfl (by decide +kernel) rfl) rfl rfl (Nat.le_of_ble_eq_true rfl) (cB h 6 [.int 0, .ref q1, .null, .null, .null, .null] ++ (cA q1 G.2.1 24 ++ [])) (sx_h gB sB) dX7_init_9 (fun H locs hw => ?_)
  refine r_aload0 C hl 0 rfl dX7_init_12 ?_
  refine lv_bipush (v := 24) C.1 C.2.1 dX7_init_13 (by decide) ?_
  refine r_newI C hw 24 (by decide) (by decide) (by decide) (Nat.le_of_ble_eq_true rfl) (Nat.le_of_ble_eq_true rfl) dX7_init_15 (fun q2 => cB h 6 [.int 0, .ref q1, .null, .null, .null, .null] ++ (cA q1 G.2.1 24 ++ (cA q2 G.2.1 24 ++ []))) (fun _ => by simp only [List.append_assoc, List.nil_append, List.append_nil]) (fun q2 H hw => ?_)
  have hw : Wd G A s H _ (cB h 6 [.int 0, .ref q1, .null, .null, .null, .null] ++ (cA q1 G.2.1 24 ++ (cA q2 G.2.1 24 ++ []))) := hw
  refine r_putF C hin hw (gx_h gB) 2 (FL.final (ty := (.array .int)) tyX7 fl_X7_15 rfl tyX7_ok nmX7 rfl (by decide +kernel) rfl) rfl rfl (Nat.le_of_ble_eq_true rfl) (cB h 6 [.int 0, .ref q1, .ref q2, .null, .null, .null] ++ (cA q1 G.2.1 24 ++ (cA q2 G.2.1 24 ++ []))) (sx_h gB sB) dX7_init_17 (fun H locs hw => ?_)
  refine r_aload0 C hl 0 rfl dX7_init_20 ?_
  refine lv_bipush (v := 24) C.1 C.2.1 dX7_init_21 (by decide) ?_
  refine r_newI C hw 24 (by decide) (by decide) (by decide) (Nat.le_of_ble_eq_true rfl) (Nat.le_of_ble_eq_true rfl) dX7_init_23 (fun q3 => cB h 6 [.int 0, .ref q1, .ref q2, .null, .null, .null] ++ (cA q1 G.2.1 24 ++ (cA q2 G.2.1 24 ++ (cA q3 G.2.1 24 ++ [])))) (fun _ => by simp only [List.append_assoc, List.nil_append, List.append_nil]) (fun q3 H hw => ?_)
  have hw : Wd G A s H _ (cB h 6 [.int 0, .ref q1, .ref q2, .null, .null, .null] ++ (cA q1 G.2.1 24 ++ (cA q2 G.2.1 24 ++ (cA q3 G.2.1 24 ++ [])))) := hw
  refine r_putF C hin hw (gx_h gB) 3 (FL.final (ty := (.array .int)) tyX7 fl_X7_18 rfl tyX7_ok nmX7 rfl (by decide +kernel) rfl) rfl rfl (Nat.le_of_ble_eq_true rfl) (cB h 6 [.int 0, .ref q1, .ref q2, .ref q3, .null, .null] ++ (cA q1 G.2.1 24 ++ (cA q2 G.2.1 24 ++ (cA q3 G.2.1 24 ++ [])))) (sx_h gB sB) dX7_init_25 (fun H locs hw => ?_)
  refine r_aload0 C hl 0 rfl dX7_init_28 ?_
  refine lv_bipush (v := 24) C.1 C.2.1 dX7_init_29 (by decide) ?_
  refine r_newI C hw 24 (by decide) (by decide) (by decide) (Nat.le_of_ble_eq_true rfl) (Nat.le_of_ble_eq_true rfl) dX7_init_31 (fun q4 => cB h 6 [.int 0, .ref q1, .ref q2, .ref q3, .null, .null] ++ (cA q1 G.2.1 24 ++ (cA q2 G.2.1 24 ++ (cA q3 G.2.1 24 ++ (cA q4 G.2.1 24 ++ []))))) (fun _ => by simp only [List.append_assoc, List.nil_append, List.append_nil]) (fun q4 H hw => ?_)
  have hw : Wd G A s H _ (cB h 6 [.int 0, .ref q1, .ref q2, .ref q3, .null, .null] ++ (cA q1 G.2.1 24 ++ (cA q2 G.2.1 24 ++ (cA q3 G.2.1 24 ++ (cA q4 G.2.1 24 ++ []))))) := hw
  refine r_putF C hin hw (gx_h gB) 4 (FL.final (ty := (.array .int)) tyX7 fl_X7_21 rfl tyX7_ok nmX7 rfl (by decide +kernel) rfl) rfl rfl (Nat.le_of_ble_eq_true rfl) (cB h 6 [.int 0, .ref q1, .ref q2, .ref q3, .ref q4, .null] ++ (cA q1 G.2.1 24 ++ (cA q2 G.2.1 24 ++ (cA q3 G.2.1 24 ++ (cA q4 G.2.1 24 ++ []))))) (sx_h gB sB) dX7_init_33 (fun H locs hw => ?_)
  refine r_aload0 C hl 0 rfl dX7_init_36 ?_
  refine lv_sipush (v := 384) C.1 C.2.1 dX7_init_37 (by decide) ?_
  refine r_newI C hw 384 (by decide) (by decide) (by decide) (Nat.le_of_ble_eq_true rfl) (Nat.le_of_ble_eq_true rfl) dX7_init_40 (fun q5 => cB h 6 [.int 0, .ref q1, .ref q2, .ref q3, .ref q4, .null] ++ (cA q1 G.2.1 24 ++ (cA q2 G.2.1 24 ++ (cA q3 G.2.1 24 ++ (cA q4 G.2.1 24 ++ (cA q5 G.2.1 384 ++ [])))))) (fun _ => by simp only [List.append_assoc, List.nil_append, List.append_nil]) (fun q5 H hw => ?_)
  have hw : Wd G A s H _ (cB h 6 [.int 0, .ref q1, .ref q2, .ref q3, .ref q4, .null] ++ (cA q1 G.2.1 24 ++ (cA q2 G.2.1 24 ++ (cA q3 G.2.1 24 ++ (cA q4 G.2.1 24 ++ (cA q5 G.2.1 384 ++ [])))))) := hw
  refine r_putF C hin hw (gx_h gB) 5 (FL.final (ty := (.array .int)) tyX7 fl_X7_24 rfl tyX7_ok nmX7 rfl (by decide +kernel) rfl) rfl rfl (Nat.le_of_ble_eq_true rfl) (cB h 6 [.int 0, .ref q1, .ref q2, .ref q3, .ref q4, .ref q5] ++ (cA q1 G.2.1 24 ++ (cA q2 G.2.1 24 ++ (cA q3 G.2.1 24 ++ (cA q4 G.2.1 24 ++ (cA q5 G.2.1 384 ++ [])))))) (sx_h gB sB) dX7_init_42 (fun H locs hw => ?_)
  refine W.widen (k := 5) (n := 480) (Nat.le_of_ble_eq_true rfl) (Nat.le_of_ble_eq_true rfl) ?_
  exact r_born (zf := fun u => zO G u P0 ++ []) (ob := 199) C hw (fun k => if k = 199 then h else if k = 101 then q1 else if k = 102 then q2 else if k = 103 then q3 else if k = 104 then q4 else q5) rfl [0, 1, 2, 3, 4, 5] (by decide) rfl dX7_init_45
