theorem kO_0 {G : GG} : kO G (fun _ _ => 0) (fun _ => none) = [] := by rfl
theorem rgA_0 : rgA (fun _ _ => 0) (fun _ => none) = fun _ => none := by rfl
set_option maxHeartbeats 4000000 in
set_option maxRecDepth 100000 in
/-- the law, from its entry -/
theorem whole_start {p : Program} {e : Env} {s : State} {m : MethodId} {below : List Frame} {meth : Method} {c : Code} (l : Launch) (hflags : l.flags = flags0) {b L : Nat} {xs : Nat → Int32} (hL : L ≤ 3072) (C0 : lw_At p s m meth c b L xs) : W p l e room_1 s m #[Value.ref b] below meth c s.heap [] 0 0 (lw_Z below #[Value.ref b] s) (entryFrame m ([Value.ref b] : List Value).toArray 7) := by
  obtain ⟨hx, hb, hr, hml, hown, hts, hX, hbl, hlocks, hgv⟩ := C0
  have hgs : ∀ w ∈ GV, w.before #[Value.ref b] s = true := flat_of_before _ hgv
  have hbt : ∀ w ∈ BT, w.before #[Value.ref b] s = true := fun w h => hts w (List.mem_filter.mp h).1
  obtain ⟨A, hAd⟩ : ∃ A : Nat → Prop, A = fun q => s.heap.size ≤ q := ⟨_, rfl⟩
  have hA0 : ∀ a : Nat, a < s.heap.size → ¬ A a := by rw [hAd]; exact fun a h => Nat.not_le.mpr h
  have hA1 : ∀ q : Nat, s.heap.size ≤ q → A q := by rw [hAd]; exact fun _ h => h
  have hA2 : ∀ q : Nat, A q → s.heap.size ≤ q := by rw [hAd]; exact fun _ h => h
  have hN : NestW s := st_N hts
  obtain ⟨G, hK⟩ := st_K hbt hN.2
  obtain ⟨K, hS⟩ := st_S (A := A) hts hgs hA0
  obtain ⟨sa, hT⟩ := st_T (A := A) hts hgs hA0
  have hl0 : l.stackTraces = false := by
    unfold Launch.stackTraces
    rw [hflags]
    decide +kernel
  have C : Cx p s m #[.ref b] meth c cL_law 7 RL (Cond.arrayClass .int) (some .boolean) := ⟨hx, hb, hml, hown, fun w h => (List.mem_cons.mp h).elim (fun q => by rw [q]; exact hbt _ arc_int) (hbt w), hlocks, hr⟩
  have I : LK A K s b L xs := ⟨hX, hbl, hA0 b hbl, hL, hN, hS⟩
  have hw : Wd G A s s.heap [] [] := ⟨hK, fun k q h => by simp at h, ⟨fun i j p q h => by simp at h, fun k q h => by simp at h⟩, va_S.rf, hA1⟩
  have hl := lv_entry ([.ref b]) (n := 7) (Nat.le_of_ble_eq_true rfl)
  rw [lg_entry_eq]
  generalize (lg_sl ([.ref b]) ++ List.replicate (7 - (lg_sl ([.ref b])).length) Slot.unset).toArray = ls at hl ⊢
  have hl : lv_has ls 7 [(0, .ref b)] := hl
  refine r_new (ci := 7) (ty := tyX8) C hw ⟨RX8, TX8, rfl, inBX8, tyX8_ok, cl_L_8, inst_X8, ini_X8⟩ [.null, .int 0, .int 0, .int 0, .int 0, .int 0, .null, .null, .null, .null, .null, .null] (by decide +kernel) (Nat.le_of_ble_eq_true rfl) (Nat.le_of_ble_eq_true rfl) dL_law_0 (fun q1 H1 hw1 => ?_)
  refine lv_dup C.1 C.2.1 dL_law_3 rfl ?_
  refine r_ctorP (wr := []) (zf := fun u => mO G u (off u 1000) (off u 2000) (off u 3000) (off u 4000) (off u 5000) (off u 6000) P0 ++ (hO G (off u 6000) (fun _ => none) P0 ++ (rO G (off u 2000) (off u 2400) (off u 2300) P0 ++ (bO G u P0 ++ (sO G (off u 1000) PL ++ (sO G (off u 2300) PL ++ (cO G (off u 3000) P0 ++ (tO G (off u 4000) P0 ++ (pO G (off u 4000) PL ++ (pO G (off u 5000) PL ++ (zO G (off u 4000) P0 ++ (zO G (off u 5000) P0 ++ (eO G (off u 4000) P0 ++ []))))))))))))) (ob := 99) (E := .inr (7, [.null, .int 0, .int 0, .int 0, .int 0, .int 0, .null, .null, .null, .null, .null, .null])) C hN hw1 hl.1 ki_X8 ini_X8 ml_L_15 ⟨rfl, by decide, by decide, by decide +kernel⟩ (ci_X8 l G q1 _) ⟨rfl, rfl⟩ ⟨Nat.le_of_ble_eq_true rfl, Nat.le_of_ble_eq_true rfl⟩ ⟨Nat.le_of_ble_eq_true rfl, Nat.le_of_ble_eq_true rfl⟩ (Nat.le_of_ble_eq_true rfl) dL_law_4 (fun u8 H2 locs2 hu8 hw2 => ?_)
  refine r_astore0 C hl [(1, .ref q1), (0, .ref b)] (by decide) rfl dL_law_7 (fun ls hl => ?_)
  subst hu8
  refine r_new (ci := 8) (ty := tyX9) C hw2 ⟨RX9, TX9, rfl, inBX9, tyX9_ok, cl_L_16, inst_X9, ini_X9⟩ [.int 0, .int 0, .int 0, .int 0, .int 0, .int 0, .int 0, .int 0, .int 0, .int 0, .int 0, .int 0, .null, .null, .null, .null, .null, .null, .null, .int 0, .null, .null, .null, .int 0, .null, .int 0, .int 0, .int 0, .int 0, .int 0, .int 0, .int 0, .long 0, .null, .null, .null, .null, .null, .null, .null, .int 0, .null, .null, .int 0] (by decide +kernel) (Nat.le_of_ble_eq_true rfl) (Nat.le_of_ble_eq_true rfl) dL_law_8 (fun q2 H3 hw3 => ?_)
  refine lv_dup C.1 C.2.1 dL_law_11 rfl ?_
  refine r_ctorP (zf := fun u => dO G u PM 0 ++ []) (ob := 99) (E := .inr (8, [.int 0, .int 0, .int 0, .int 0, .int 0, .int 0, .int 0, .int 0, .int 0, .int 0, .int 0, .int 0, .null, .null, .null, .null, .null, .null, .null, .int 0, .null, .null, .null, .int 0, .null, .int 0, .int 0, .int 0, .int 0, .int 0, .int 0, .int 0, .long 0, .null, .null, .null, .null, .null, .null, .null, .int 0, .null, .null, .int 0])) C hN hw3 hl.1 ki_X9 ini_X9 ml_L_18 ⟨rfl, by decide, by decide, by decide +kernel⟩ (ci_X9 l G q2 _) ⟨rfl, rfl⟩ ⟨Nat.le_of_ble_eq_true rfl, Nat.le_of_ble_eq_true rfl⟩ ⟨Nat.le_of_ble_eq_true rfl, Nat.le_of_ble_eq_true rfl⟩ (Nat.le_of_ble_eq_true rfl) dL_law_12 (fun u9 H4 locs hu9 hw4 => ?_)
  refine r_astore0 C hl [(2, .ref q2), (1, .ref (u8 99)), (0, .ref b)] (by decide) rfl dL_law_15 (fun ls hl => ?_)
  subst hu9
  refine lv_iconst (v := 1) C.1 C.2.1 dL_law_16 (by decide) ?_
  refine r_newL C hw4 1 (by decide) (by decide) (by decide) (Nat.le_of_ble_eq_true rfl) (Nat.le_of_ble_eq_true rfl) dL_law_17 (fun qo H hw5 => ?_)
  refine r_astore0 C hl [(3, .ref qo), (2, .ref (u9 99)), (1, .ref (u8 99)), (0, .ref b)] (by decide) rfl dL_law_19 (fun ls hl => ?_)
  refine lv_iconst (v := nI 0) C.1 C.2.1 dL_law_20 (by decide) ?_
  refine r_istore C hl (lw0 0 qo u9 u8 b) (by decide) rfl dL_law_21 (fun ls hl => ?_)
  have hw : Wd G A s H locs (mO G u8 (off u8 1000) (off u8 2000) (off u8 3000) (off u8 4000) (off u8 5000) (off u8 6000) P0 ++ (hO G (off u8 6000) (fun _ => none) P0 ++ (rO G (off u8 2000) (off u8 2400) (off u8 2300) P0 ++ (bO G u8 P0 ++ (sO G (off u8 1000) PL ++ (sO G (off u8 2300) PL ++ (cO G (off u8 3000) P0 ++ (tO G (off u8 4000) P0 ++ (pO G (off u8 4000) PL ++ (pO G (off u8 5000) PL ++ (zO G (off u8 4000) P0 ++ (zO G (off u8 5000) P0 ++ (eO G (off u8 4000) P0 ++ (dO G u9 PM 0 ++ ([(qo, .inl (G.2.2.2.2, 1, .inr (.inl (fun _ => 0))))]))))))))))))))) := by
    simpa only [List.append_assoc, List.nil_append, List.append_nil] using hw5
  have hw : Wd G A s H locs (mO G u8 (off u8 1000) (off u8 2000) (off u8 3000) (off u8 4000) (off u8 5000) (off u8 6000) P0 ++ (rO G (off u8 2000) (off u8 2400) (off u8 2300) P0 ++ (bO G u8 P0 ++ (sO G (off u8 1000) PL ++ (sO G (off u8 2300) PL ++ (cO G (off u8 3000) P0 ++ (hO G (off u8 6000) (fun _ => none) P0 ++ (tO G (off u8 4000) P0 ++ (pO G (off u8 4000) PL ++ (pO G (off u8 5000) PL ++ (zO G (off u8 4000) P0 ++ (zO G (off u8 5000) P0 ++ (eO G (off u8 4000) P0 ++ (dO G u9 PM 0 ++ ([(qo, .inl (G.2.2.2.2, 1, .inr (.inl (fun _ => 0))))] ++ []))))))))))))))) := Wd.pm (bk [mO G u8 (off u8 1000) (off u8 2000) (off u8 3000) (off u8 4000) (off u8 5000) (off u8 6000) P0, hO G (off u8 6000) (fun _ => none) P0, rO G (off u8 2000) (off u8 2400) (off u8 2300) P0, bO G u8 P0, sO G (off u8 1000) PL, sO G (off u8 2300) PL, cO G (off u8 3000) P0, tO G (off u8 4000) P0, pO G (off u8 4000) PL, pO G (off u8 5000) PL, zO G (off u8 4000) P0, zO G (off u8 5000) P0, eO G (off u8 4000) P0, dO G u9 PM 0, [(qo, .inl (G.2.2.2.2, 1, .inr (.inl (fun _ => 0))))]]) [0, 1, 2, 3, 4, 5, 6, 7, 8, 9, 10, 11, 12, 13, 14] [0, 2, 3, 4, 5, 6, 1, 7, 8, 9, 10, 11, 12, 13, 14] (by decide) (by show (mO G u8 (off u8 1000) (off u8 2000) (off u8 3000) (off u8 4000) (off u8 5000) (off u8 6000) P0 ++ (hO G (off u8 6000) (fun _ => none) P0 ++ (rO G (off u8 2000) (off u8 2400) (off u8 2300) P0 ++ (bO G u8 P0 ++ (sO G (off u8 1000) PL ++ (sO G (off u8 2300) PL ++ (cO G (off u8 3000) P0 ++ (tO G (off u8 4000) P0 ++ (pO G (off u8 4000) PL ++ (pO G (off u8 5000) PL ++ (zO G (off u8 4000) P0 ++ (zO G (off u8 5000) P0 ++ (eO G (off u8 4000) P0 ++ (dO G u9 PM 0 ++ ([(qo, .inl (G.2.2.2.2, 1, .inr (.inl (fun _ => 0))))] ++ []))))))))))))))) = _; simp only [List.append_nil]) rfl hw
  have hw : Wd G A s H locs (mO G u8 (off u8 1000) (off u8 2000) (off u8 3000) (off u8 4000) (off u8 5000) (off u8 6000) P0 ++ (rO G (off u8 2000) (off u8 2400) (off u8 2300) P0 ++ (bO G u8 P0 ++ (sO G (off u8 1000) PL ++ (sO G (off u8 2300) PL ++ (cO G (off u8 3000) P0 ++ (hO G (off u8 6000) (rgA (fun _ _ => 0) (fun _ => none)) P0 ++ (tO G (off u8 4000) P0 ++ (pO G (off u8 4000) PL ++ (pO G (off u8 5000) PL ++ (zO G (off u8 4000) P0 ++ (zO G (off u8 5000) P0 ++ (eO G (off u8 4000) P0 ++ (kO G (fun _ _ => 0) (fun _ => none) ++ (dO G u9 PM 0 ++ ([(qo, .inl (G.2.2.2.2, 1, .inr (.inl (fun _ => 0))))] ++ [])))))))))))))))) := by
    rw [rgA_0, kO_0]
    simpa only [List.append_assoc, List.nil_append, List.append_nil] using hw
  refine W.widen (k := 200) (n := 21000) (by decide) (by decide) ?_
  exact law_loop hl0 hT hA2 C I 512 0 200 21000 H locs ls (by omega) (by decide) (by decide) (by decide) hl ⟨off u8 1000, off u8 2300, off u8 2000, off u8 2400, off u8 3000, off u8 6000, off u8 4000, off u8 5000, fun _ _ => 0, P0, P0, P0, PL, PL, P0, P0, P0, PL, PL, P0, P0, P0, fun _ => none, PM, 0, fun _ => 0, hw, rlx_start⟩
