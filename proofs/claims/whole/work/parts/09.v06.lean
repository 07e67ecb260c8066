set_option maxHeartbeats 4000000 in
set_option maxRecDepth 100000 in
theorem ci_X2 (l : Launch) (G : GG) (h sz : Nat) : Met l yX2_init (.code yX2_init cX2_init 1 none :: BT) ({ frames := 1, cells := 1, slots := 10, locals := 12 }) (va_Pc [.ref h] (PreN G sz (cB h 1 [.null, .int 0, .int 0]))) (Born G (fun u => hO G u (fun _ => none) P0 ++ []) 99 h (va_A (cB h 1 [.null, .int 0, .int 0]) sz)) 1 10 (va_A (cB h 1 [.null, .int 0, .int 0]) sz) := by
  refine Met.intoC (by decide) rfl (Nat.le_of_ble_eq_true rfl) ?_
  intro p e s m below meth c C hin hq ls hl hw
  have hl : lv_has ls 1 [(0, .ref h)] := hl
  generalize va_A (cB h 1 [.null, .int 0, .int 0]) sz = A at hw ⊢
  have hw : Wd G A s s.heap [] ((cB h 1 [.null, .int 0, .int 0]) ++ []) := hw
  refine r_aload0 C hl 0 rfl dX2_init_0 ?_
  refine r_objI C hl.1 obl_X2 (Nat.le_of_ble_eq_true rfl) (Nat.le_of_ble_eq_true rfl) dX2_init_1 ?_
  refine r_aload0 C hl 0 rfl dX2_init_4 ?_
  refine lv_bipush (v := 10) C.1 C.2.1 dX2_init_5 (by decide) ?_
  refine r_newQ C hw hq cl_X2_9 10 (by decide) (by decide) (by decide) (Nat.le_of_ble_eq_true rfl) (Nat.le_of_ble_eq_true rfl) dX2_init_7 (fun q1 => cB h 1 [.null, .int 0, .int 0] ++ (cR q1 G.2.2.2.1 10 ++ [])) (fun _ => by simp only [List.append_assoc, List.nil_append, List.append_nil]) (fun q1 H hw => ?_)
  have hw : Wd G A s H _ (cB h 1 [.null, .int 0, .int 0] ++ (cR q1 G.2.2.2.1 10 ++ [])) := hw
  refine r_putF C hin hw (gx_h gB) 0 (FL.final (ty := (tyX2 0)) tyX2 fl_X2_11 rfl tyX2_ok nmX2 rfl (by decide +kernel) rfl) rfl rfl (Nat.le_of_ble_eq_true rfl) (cB h 1 [.ref q1, .int 0, .int 0] ++ (cR q1 G.2.2.2.1 10 ++ [])) (sx_h gB sB) dX2_init_10 (fun H locs hw => ?_)
  refine W.widen (k := 1) (n := 10) (Nat.le_of_ble_eq_true rfl) (Nat.le_of_ble_eq_true rfl) ?_
  exact r_born (zf := fun u => hO G u (fun _ => none) P0 ++ []) (ob := 99) C hw (fun k => if k = 99 then h else q1) rfl [0, 1] (by decide) rfl dX2_init_13
