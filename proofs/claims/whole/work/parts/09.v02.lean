set_option maxHeartbeats 4000000 in
set_option maxRecDepth 100000 in
theorem ci_X6 (l : Launch) (G : GG) (h sz : Nat) : Met l yX6_init (.code yX6_init cX6_init 1 none :: BT) ({ frames := 3, cells := 18, slots := 1365, locals := 52 }) (va_Pc [.ref h] (PreN G sz (cB h 5 [.null, .null, .null]))) (Born G (fun u => tO G u P0 ++ (pO G u PL ++ (zO G u P0 ++ (eO G u P0 ++ [])))) 299 h (va_A (cB h 5 [.null, .null, .null]) sz)) 18 1365 (va_A (cB h 5 [.null, .null, .null]) sz) := by
  refine Met.intoC (by decide) rfl (Nat.le_of_ble_eq_true rfl) ?_
  intro p e s m below meth c C hin hq ls hl hw
  have hl : lv_has ls 1 [(0, .ref h)] := hl
  generalize va_A (cB h 5 [.null, .null, .null]) sz = A at hw ⊢
  have hw : Wd G A s s.heap [] ((cB h 5 [.null, .null, .null]) ++ []) := hw
  refine r_aload0 C hl 0 rfl dX6_init_0 ?_
  refine r_objI C hl.1 obl_X6 (Nat.le_of_ble_eq_true rfl) (Nat.le_of_ble_eq_true rfl) dX6_init_1 ?_
  refine r_aload0 C hl 0 rfl dX6_init_4 ?_
  refine lv_sipush (v := 160) C.1 C.2.1 dX6_init_5 (by decide) ?_
  refine r_newI C hw 160 (by decide) (by decide) (by decide) (Nat.le_of_ble_eq_true rfl) (Nat.le_of_ble_eq_true rfl) dX6_init_8 (fun q1 => cB h 5 [.null, .null, .null] ++ (cA q1 G.2.1 160 ++ [])) (fun _ => by simp only [List.append_assoc, List.nil_append, List.append_nil]) (fun q1 H hw => ?_)
  have hw : Wd G A s H _ (cB h 5 [.null, .null, .null] ++ (cA q1 G.2.1 160 ++ [])) := hw
  refine r_putF C hin hw (gx_h gB) 0 (FL.final (ty := (.array .int)) tyX6 fl_X6_9 rfl tyX6_ok nmX6 rfl (by decide +kernel) rfl) rfl rfl (Nat.le_of_ble_eq_true rfl) (cB h 5 [.ref q1, .null, .null] ++ (cA q1 G.2.1 160 ++ [])) (sx_h gB sB) dX6_init_10 (fun H locs hw => ?_)
  refine r_aload0 C hl 0 rfl dX6_init_13 ?_
  refine lv_bipush (v := 10) C.1 C.2.1 dX6_init_14 (by decide) ?_
  refine r_newI C hw 10 (by decide) (by decide) (by decide) (Nat.le_of_ble_eq_true rfl) (Nat.le_of_ble_eq_true rfl) dX6_init_16 (fun q2 => cB h 5 [.ref q1, .null, .null] ++ (cA q1 G.2.1 160 ++ (cA q2 G.2.1 10 ++ []))) (fun _ => by simp only [List.append_assoc, List.nil_append, List.append_nil]) (fun q2 H hw => ?_)
  have hw : Wd G A s H _ (cB h 5 [.ref q1, .null, .null] ++ (cA q1 G.2.1 160 ++ (cA q2 G.2.1 10 ++ []))) := hw
  refine r_putF C hin hw (gx_h gB) 1 (FL.final (ty := (.array .int)) tyX6 fl_X6_15 rfl tyX6_ok nmX6 rfl (by decide +kernel) rfl) rfl rfl (Nat.le_of_ble_eq_true rfl) (cB h 5 [.ref q1, .ref q2, .null] ++ (cA q1 G.2.1 160 ++ (cA q2 G.2.1 10 ++ []))) (sx_h gB sB) dX6_init_18 (fun H locs hw => ?_)
  refine r_aload0 C hl 0 rfl dX6_init_21 ?_
  refine r_new (ci := 2) (ty := tyX3) C hw ⟨RX3, TX3, rfl, inBX3, tyX3_ok, cl_X6_18, inst_X3, ini_X3⟩ [.int 0, .int 0, .int 0, .null, .null, .null, .null, .null, .null, .null, .null, .int 0, .null, .null, .int 0] (by decide +kernel) (Nat.le_of_ble_eq_true rfl) (Nat.le_of_ble_eq_true rfl) dX6_init_22 (fun q3 H hw => ?_)
  refine lv_dup C.1 C.2.1 dX6_init_25 rfl ?_
  refine r_ctorN (zf := fun u => pO G u PL ++ (zO G u P0 ++ [])) (ob := 99) (E := .inr (2, [.int 0, .int 0, .int 0, .null, .null, .null, .null, .null, .null, .null, .null, .int 0, .null, .null, .int 0])) C hq hw hl.1 ki_X3 ini_X3 (by decide +kernel) (by decide +kernel) (ci_X3 l G q3 _) ⟨rfl, rfl⟩ ⟨Nat.le_of_ble_eq_true rfl, Nat.le_of_ble_eq_true rfl⟩ ⟨Nat.le_of_ble_eq_true rfl, Nat.le_of_ble_eq_true rfl⟩ (Nat.le_of_ble_eq_true rfl) dX6_init_26 (fun u1 => cB h 5 [.ref q1, .ref q2, .null] ++ (cA q1 G.2.1 160 ++ (cA q2 G.2.1 10 ++ ((pO G u1 PL ++ (zO G u1 P0 ++ [])) ++ [])))) (fun _ => by simp only [List.append_assoc, List.nil_append, List.append_nil]) (fun u1 H locs hu1 hw => ?_)
  have hw : Wd G A s H _ (cB h 5 [.ref q1, .ref q2, .null] ++ (cA q1 G.2.1 160 ++ (cA q2 G.2.1 10 ++ ((pO G u1 PL ++ (zO G u1 P0 ++ [])) ++ [])))) := hw
  refine r_putF C hin hw (gx_h gB) 2 (FL.final (ty := (tyX6 2)) tyX6 fl_X6_21 rfl tyX6_ok nmX6 rfl (by decide +kernel) rfl) rfl rfl (Nat.le_of_ble_eq_true rfl) (cB h 5 [.ref q1, .ref q2, .ref q3] ++ (cA q1 G.2.1 160 ++ (cA q2 G.2.1 10 ++ ((pO G u1 PL ++ (zO G u1 P0 ++ [])) ++ [])))) (sx_h gB sB) dX6_init_29 (fun H locs hw => ?_)
  refine W.widen (k := 18) (n := 1365) (Nat.le_of_ble_eq_true rfl) (Nat.le_of_ble_eq_true rfl) ?_
  subst hu1
  exact r_born (zf := fun u => tO G u P0 ++ (pO G u PL ++ (zO G u P0 ++ (eO G u P0 ++ [])))) (ob := 299) C hw (fun k => if k < 200 then u1 k else if k = 299 then h else if k = 200 then q1 else q2) rfl [0, 2, 3, 4, 5, 6, 7, 8, 9, 10, 11, 12, 13, 14, 15, 16, 17, 18, 1] (by decide) rfl dX6_init_32
