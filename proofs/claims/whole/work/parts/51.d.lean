/-! the law's own onDisk: it catches -/
section OD
variable {p : Program} {l : Launch} {e : Env} {R : Room} {s : State} {m : MethodId} {args : Array Value} {below : List Frame} {meth : Method} {c : Code} {H : Heap} {locs : List Loc} {cells slots : Nat} {Q : State → Prop}
variable {cc : ByteArray} {nL pc : Nat} {own : String} {w0 : Cond} {ret : Option FieldType} {ls : Array Slot} {rest : List Value} {G : GG} {A : Nat → Prop} {ws : va_W} {a n : Nat}
theorem r_last (C : Cx p s m args meth c cc nL own w0 ret) (hw : Wd G A s H locs ws) (q0 : Nat) {f : Nat → Int64} (ha : ws[q0]? = some (a, .inl (G.2.2.2.2, n, .inr (.inl f)))) {i : Int32} {x : Int64} (hin : vp_in i n) (ws' : va_W) (hs : ws.set q0 (a, .inl (G.2.2.2.2, n, .inr (.inl (vp_updL f i.toNatClampNeg x)))) = ws') (hdg : decode cc pc = .ok (.lastore, 1)) (kk : ∀ (H1 : Heap) (locs1 : List Loc), Wd G A s H1 locs1 ws' → W p l e R s m args below meth c H1 locs1 cells slots Q (F0 m (pc + 1) ls rest)) : W p l e R s m args below meth c H locs cells slots Q (F0 m pc ls (.long x :: .int i :: .ref a :: rest)) := by
  refine va_last C.1 C.2.1 hw.1 hw.2.1 hw.2.2.1 hw.2.2.2.1 q0 3 ha rfl hin hdg (fun H1 locs1 hP hD hS => ?_)
  rw [hs] at hP hD
  exact kk H1 locs1 ⟨hw.1, hP, hD, hS, hw.2.2.2.2⟩
theorem in01 : vp_in 0 1 := by unfold vp_in; decide
theorem goodL (w0 : Cond) : GoodIn (w0 :: BT) (va_wsS RL 215 yL_onDisk (.codeWith yL_onDisk cL_onDisk 4 (some .int) [(0, 9, 12, 13)] :: BT)) := by
  intro w hw
  have hm : w ∈ BT := by
    rcases List.mem_append.mp hw with h | h
    · rcases List.mem_cons.mp h with rfl | h
      · exact ml_L_215
      · rcases List.mem_cons.mp h with rfl | h
        · exact ns_s
        · rcases List.mem_cons.mp h with rfl | h
          · exact ns_l
          · cases h
    · rcases List.mem_cons.mp h with rfl | h
      · exact ns_w
      · exact h
  exact ⟨List.mem_cons_of_mem _ hm, good_of_word (List.mem_filter.mp hm).2⟩
end OD
abbrev odR (P : Nat → Int32) (x : Int32) (r : Int32) (u : Nat → Int64) : Prop := (∃ q, odC P 30 0 0 x = some q ∧ r = 0 ∧ u 0 = (nI q).toInt64) ∨ (odC P 30 0 0 x = none ∧ r = 1)
set_option maxHeartbeats 4000000 in
set_option maxRecDepth 100000 in
theorem c_L_onDisk (l : Launch) (hl0 : l.stackTraces = false) (G : GG) (am as_ ar ac an ath ah : Nat → Nat) (qo sa sz : Nat) (m_am t_an p_an : Pic) (ov : Nat → Int64) (x1 : Int32) : Met l yL_onDisk (.codeWith yL_onDisk cL_onDisk 4 (some .int) [(0, 9, 12, 13)] :: BT) { frames := 7, cells := 1, slots := 6, locals := 105 } (va_Pc [.ref (am 99), .int x1, .ref qo] (PreO G sa sz (mO G am as_ ar ac an ath ah m_am ++ (tO G an t_an ++ (pO G an p_an ++ ([(qo, .inl (G.2.2.2.2, 1, .inr (.inl ov)))] ++ [])))))) (va_Qi (odR (p_an.2 4) x1) (fun u t => PosW G (va_A (mO G am as_ ar ac an ath ah m_am ++ (tO G an t_an ++ (pO G an p_an ++ ([(qo, .inl (G.2.2.2.2, 1, .inr (.inl ov)))] ++ [])))) sz) (mO G am as_ ar ac an ath ah m_am ++ (tO G an t_an ++ (pO G an p_an ++ ([(qo, .inl (G.2.2.2.2, 1, .inr (.inl u)))] ++ [])))) t) (va_A (mO G am as_ ar ac an ath ah m_am ++ (tO G an t_an ++ (pO G an p_an ++ ([(qo, .inl (G.2.2.2.2, 1, .inr (.inl ov)))] ++ [])))) sz)) 1 6 (va_A (mO G am as_ ar ac an ath ah m_am ++ (tO G an t_an ++ (pO G an p_an ++ ([(qo, .inl (G.2.2.2.2, 1, .inr (.inl ov)))] ++ [])))) sz) := by
  refine va_MetW (cc := cL_onDisk) (maxL := 4) (ret := some .int) (hh := [(0, 9, 12, 13)]) (by decide) rfl ?_
  intro p e s m args below meth c s₁ B hml hv
  obtain ⟨rfl, ⟨hsz, hP, hK, hD0⟩, hth⟩ := hv
  have hts := atoms_spec (ws := .codeWith yL_onDisk cL_onDisk 4 (some .int) [(0, 9, 12, 13)] :: BT) B.pre
  have htab := vx_table (x := yL_onDisk) B (hts _ List.mem_cons_self)
  have hown : s.vm.findClass RL = some m.cls := findClass_of_methodNamed B.named
  have hl := lv_entry [.ref (am 99), .int x1, .ref qo] (n := 4) (Nat.le_of_ble_eq_true rfl)
  rw [lg_entry_eq]
  generalize (lg_sl ([.ref (am 99), .int x1, .ref qo]) ++ List.replicate (4 - (lg_sl ([.ref (am 99), .int x1, .ref qo])).length) Slot.unset).toArray = ls at hl ⊢
  have hl : lv_has ls 4 [(0, .ref (am 99)), (1, .int x1), (2, .ref qo)] := hl
  have C : Cx p s m [Value.ref (am 99), .int x1, .ref qo].toArray meth c cL_onDisk 4 RL (.codeWith yL_onDisk cL_onDisk 4 (some .int) [(0, 9, 12, 13)]) (some .int) := ⟨B.exec, B.bytes, hml, hown, hts, B.notSynchronized, B.returns⟩
  have hw : Wd G (va_A (mO G am as_ ar ac an ath ah m_am ++ (tO G an t_an ++ (pO G an p_an ++ ([(qo, .inl (G.2.2.2.2, 1, .inr (.inl ov)))] ++ [])))) sz) s s.heap [] (mO G am as_ ar ac an ath ah m_am ++ (tO G an t_an ++ (pO G an p_an ++ ([(qo, .inl (G.2.2.2.2, 1, .inr (.inl ov)))] ++ [])))) := ⟨hK, hP, hD0.self, va_S.rf, fun q h => Or.inr (by rw [← hsz]; exact h)⟩
  generalize va_A (mO G am as_ ar ac an ath ah m_am ++ (tO G an t_an ++ (pO G an p_an ++ ([(qo, .inl (G.2.2.2.2, 1, .inr (.inl ov)))] ++ [])))) sz = A at hw hth ⊢
  have inb : ∀ {w : Cond}, w ∈ BT → w.before [Value.ref (am 99), .int x1, .ref qo].toArray s = true := fun h => hts _ (List.mem_cons_of_mem _ h)
  refine r_aload0 C hl 2 rfl dL_onDisk_0 ?_
  refine lv_iconst (v := 0) C.1 C.2.1 dL_onDisk_1 (by decide) ?_
  refine r_aload0 C hl 0 rfl dL_onDisk_2 ?_
  refine r_iload0 C hl 1 rfl dL_onDisk_3 ?_
  have cut : CutX (mO G am as_ ar ac an ath ah m_am ++ (tO G an t_an ++ (pO G an p_an ++ ([(qo, .inl (G.2.2.2.2, 1, .inr (.inl ov)))] ++ [])))) (mO G am as_ ar ac an ath ah m_am ++ (tO G an t_an ++ (pO G an p_an ++ []))) (mO G am as_ ar ac an ath ah m_am ++ (tO G an t_an ++ (pO G an p_an ++ ([(qo, .inl (G.2.2.2.2, 1, .inr (.inl ov)))] ++ [])))) (mO G am as_ ar ac an ath ah m_am ++ (tO G an t_an ++ (pO G an p_an ++ []))) := CutX.take mO_f (CutX.take tO_f (CutX.take pO_f CutX.none))
  obtain ⟨isC, isR, c1, c2, c3, c4, c5, c6⟩ := cut
  obtain ⟨k1, k2, k3, k4, k5, k6, k7⟩ := kX8_onDisk
  have cw : CallW { frames := 7, cells := 1, slots := 6, locals := 105 } s [Value.ref (am 99), .int x1, .ref qo].toArray RL yX8_onDisk.cls 7 yX8_onDisk cX8_onDisk 4 (some .int) (.code yX8_onDisk cX8_onDisk 4 (some .int) :: BT) { frames := 6, cells := 1, slots := 6, locals := 82 } 1 6 1 := ⟨callB_of 1 hts (goodBT _ k1) rfl rfl rfl (inb k4) (inb ml_L_7) ⟨k5, k6, k7⟩ ⟨Nat.le_of_ble_eq_true rfl, Nat.le_of_ble_eq_true rfl⟩, inb k2, inb k3⟩
  refine vx_calli (vx_runV (As := [.int x1]) (rest := [.int 0, .ref qo]) ⟨C.1, C.2.1, C.2.2.1, C.2.2.2.1, hts⟩ (c_X8_onDisk l hl0 G am as_ ar ac an ath ah sa _ m_am t_an p_an x1) cw ⟨blindO, va_recv hw.1 hw.2.1 (show vwCl[7]? = some (yX8_onDisk.cls, _, _) from rfl) (gx_h mO_o), fun U hU hW2 => ⟨rfl, hw.pre isC c1 c2 U hU hW2, hth.pass hw.2.2.2.1 (hw.fr isC c2) hU hW2⟩⟩ rfl rfl hl.1 rfl (lv_room (Nat.le_of_ble_eq_true rfl)) dL_onDisk_4 ⟨Nat.le_of_ble_eq_true rfl, Nat.le_of_ble_eq_true rfl⟩) hw.2.2.2.1 (fun q _ h => hw.fr isC c2 q h) (hw.fr isC c2) (fun q _ h => hw.fr isC c2 q h) (fun E ce q9 u t H1 locs1 ht hvm hp hB hz1 hk1 hS hce hcv hcl => ?_) (fun r1 u t H1 locs1 ht hvm hp hB hz1 hk1 hS => ?_)
  · obtain ⟨rfl, hB⟩ := hB
    have hw2 : Wd G A s H1 locs1 (mO G am as_ ar ac an ath ah m_am ++ (tO G an t_an ++ (pO G an p_an ++ ([(qo, .inl (G.2.2.2.2, 1, .inr (.inl ov)))] ++ [])))) := hw.after isC isR c2 c3 c4 c5 c6 hk1 hS ht hB
    refine vx_catch (own := RL) (name := nsE) C.2.2.2.1 [] ⟨0, 9, 12, 13⟩ [] (htab.trans rfl) (fun z hz => nomatch hz) rfl (by decide) (inb ns_L) (va_Nw.use rfl hth.2.2.2.1) hce hcv hcl ?_
    refine r_astore0 C hl [(3, .ref q9), (0, .ref (am 99)), (1, .int x1), (2, .ref qo)] (by decide) rfl dL_onDisk_12 (fun ls hl => ?_)
    refine lv_iconst (v := 1) C.1 C.2.1 dL_onDisk_13 (by decide) ?_
    exact W.iret C.1 C.2.1 C.2.2.2.2.2.2 (fun t ht hW => ⟨⟨1, ov, rfl, Or.inr ⟨hp, rfl⟩, by rw [ht]; exact hw2.2.1, va_K.moved hW.alike hw2.1, hw2.2.2.1⟩, hw2.2.2.2.1.F ht⟩) hw2.2.2.2.1.2.2 dL_onDisk_14 C.2.2.2.2.2.1
  · obtain ⟨q, hq, rfl⟩ := hp
    have hw2 : Wd G A s H1 locs1 (mO G am as_ ar ac an ath ah m_am ++ (tO G an t_an ++ (pO G an p_an ++ ([(qo, .inl (G.2.2.2.2, 1, .inr (.inl ov)))] ++ [])))) := hw.after isC isR c2 c3 c4 c5 c6 hk1 hS ht hB
    refine lv_i2l (v := (nI q).toInt64) C.1 C.2.1 dL_onDisk_7 rfl ?_
    refine r_last C hw2 _ (gx_t (gx_t (gx_t (gx_h g1)))) in01 (mO G am as_ ar ac an ath ah m_am ++ (tO G an t_an ++ (pO G an p_an ++ ([(qo, .inl (G.2.2.2.2, 1, .inr (.inl (vp_updL ov (Int32.toNatClampNeg 0) (nI q).toInt64))))] ++ [])))) (sx_t (sx_t (sx_t (sx_h g1 s1)))) dL_onDisk_8 (fun H locs hw => ?_)
    refine lv_goto (tgt := 15) C.1 C.2.1 dL_onDisk_9 (by decide) ?_
    refine lv_iconst (v := 0) C.1 C.2.1 dL_onDisk_15 (by decide) ?_
    exact W.iret C.1 C.2.1 C.2.2.2.2.2.2 (fun t ht hW => ⟨⟨0, _, rfl, Or.inl ⟨q, hq, rfl, rfl⟩, by rw [ht]; exact hw.2.1, va_K.moved hW.alike hw.1, hw.2.2.1⟩, hw.2.2.2.1.F ht⟩) hw.2.2.2.1.2.2 dL_onDisk_16 C.2.2.2.2.2.1
