set_option maxHeartbeats 4000000 in
set_option maxRecDepth 100000 in
theorem ci_X4 (l : Launch) (G : GG) (h sz : Nat) : Met l yX4_init (.code yX4_init cX4_init 1 none :: BT) ({ frames := 2, cells := 6, slots := 241, locals := 32 }) (va_Pc [.ref h] (PreN G sz (cB h 3 [.null, .int 0, .int 0, .int 0, .int 0, .int 0, .int 0, .int 0, .null]))) (Born G (fun u => rO G u (off u 400) (off u 300) P0 ++ (sO G (off u 300) PL ++ [])) 99 h (va_A (cB h 3 [.null, .int 0, .int 0, .int 0, .int 0, .int 0, .int 0, .int 0, .null]) sz)) 6 241 (va_A (cB h 3 [.null, .int 0, .int 0, .int 0, .int 0, .int 0, .int 0, .int 0, .null]) sz) := by
  refine Met.intoC (by decide) rfl (Nat.le_of_ble_eq_true rfl) ?_
  intro p e s m below meth c C hin hq ls hl hw
  have hl : lv_has ls 1 [(0, .ref h)] := hl
  generalize va_A (cB h 3 [.null, .int 0, .int 0, .int 0, .int 0, .int 0, .int 0, .int 0, .null]) sz = A at hw ⊢
  have hw : Wd G A s s.heap [] ((cB h 3 [.null, .int 0, .int 0, .int 0, .int 0, .int 0, .int 0, .int 0, .null]) ++ []) := hw
  refine r_aload0 C hl 0 rfl dX4_init_0 ?_
  refine r_objI C hl.1 obl_X4 (Nat.le_of_ble_eq_true rfl) (Nat.le_of_ble_eq_true rfl) dX4_init_1 ?_
  refine r_aload0 C hl 0 rfl dX4_init_4 ?_
  refine lv_iconst (v := 0) C.1 C.2.1 dX4_init_5 (by decide) ?_
  refine r_newI C hw 0 (by decide) (by decide) (by decide) (Nat.le_of_ble_eq_true rfl) (Nat.le_of_ble_eq_true rfl) dX4_init_6 (fun q1 => cB h 3 [.null, .int 0, .int 0, .int 0, .int 0, .int 0, .int 0, .int 0, .null] ++ (cA q1 G.2.1 0 ++ [])) (fun _ => by simp only [List.append_assoc, List.nil_append, List.append_nil]) (fun q1 H hw => ?_)
  have hw : Wd G A s H _ (cB h 3 [.null, .int 0, .int 0, .int 0, .int 0, .int 0, .int 0, .int 0, .null] ++ (cA q1 G.2.1 0 ++ [])) := hw
  refine r_put C hw _ (gx_h gB) 0 fp_X4_9 rfl rfl (Nat.le_of_ble_eq_true rfl) (cB h 3 [.ref q1, .int 0, .int 0, .int 0, .int 0, .int 0, .int 0, .int 0, .null] ++ (cA q1 G.2.1 0 ++ [])) (sx_h gB sB) dX4_init_8 (fun H locs hw => ?_)
  refine r_aload0 C hl 0 rfl dX4_init_11 ?_
  refine r_new (ci := 4) (ty := tyX5) C hw ⟨RX5, TX5, rfl, inBX5, tyX5_ok, cl_X4_15, inst_X5, ini_X5⟩ [.int 0, .int 0, .int 0, .int 0, .int 0, .null, .null, .null, .null] (by decide +kernel) (Nat.le_of_ble_eq_true rfl) (Nat.le_of_ble_eq_true rfl) dX4_init_12 (fun q2 H hw => ?_)
  refine lv_dup C.1 C.2.1 dX4_init_15 rfl ?_
  refine r_ctorN (zf := fun u => sO G u PL ++ []) (ob := 99) (E := .inr (4, [.int 0, .int 0, .int 0, .int 0, .int 0, .null, .null, .null, .null])) C hq hw hl.1 ki_X5 ini_X5 (by decide +kernel) (by decide +kernel) (ci_X5 l G q2 _) ⟨rfl, rfl⟩ ⟨Nat.le_of_ble_eq_true rfl, Nat.le_of_ble_eq_true rfl⟩ ⟨Nat.le_of_ble_eq_true rfl, Nat.le_of_ble_eq_true rfl⟩ (Nat.le_of_ble_eq_true rfl) dX4_init_16 (fun u1 => cB h 3 [.ref q1, .int 0, .int 0, .int 0, .int 0, .int 0, .int 0, .int 0, .null] ++ (cA q1 G.2.1 0 ++ ((sO G u1 PL ++ []) ++ []))) (fun _ => by simp only [List.append_assoc, List.nil_append, List.append_nil]) (fun u1 H locs hu1 hw => ?_)
  have hw : Wd G A s H _ (cB h 3 [.ref q1, .int 0, .int 0, .int 0, .int 0, .int 0, .int 0, .int 0, .null] ++ (cA q1 G.2.1 0 ++ ((sO G u1 PL ++ []) ++ []))) := hw
  refine r_put C hw _ (gx_h gB) 8 fp_X4_18 rfl rfl (Nat.le_of_ble_eq_true rfl) (cB h 3 [.ref q1, .int 0, .int 0, .int 0, .int 0, .int 0, .int 0, .int 0, .ref q2] ++ (cA q1 G.2.1 0 ++ ((sO G u1 PL ++ []) ++ []))) (sx_h gB sB) dX4_init_19 (fun H locs hw => ?_)
  refine W.widen (k := 6) (n := 241) (Nat.le_of_ble_eq_true rfl) (Nat.le_of_ble_eq_true rfl) ?_
  subst hu1
  exact r_born (zf := fun u => rO G u (off u 400) (off u 300) P0 ++ (sO G (off u 300) PL ++ [])) (ob := 99) C hw (fun k => if 300 ≤ k ∧ k < 400 then u1 (k - 300) else if k = 99 then h else q1) rfl [0, 2, 3, 4, 5, 6] (by decide) rfl dX4_init_22
