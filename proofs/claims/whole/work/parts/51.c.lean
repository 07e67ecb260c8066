/-! SqueezedSwap.onDisk: it returns or throws -/
def ThrW (sa : Nat) (A : Nat → Prop) (U : State) : Prop := vk_R RX8 361 "no such page on disk" sa U ∧ vx_Zq Bundle.tN "UNASSIGNED_STACK" Bundle.steD A U U.heap ∧ vx_Zq Bundle.tN "SUPPRESSED_SENTINEL" Bundle.listD A U U.heap ∧ nsC U
def PreO (G : GG) (sa sz : Nat) (ws : va_W) (U : State) : Prop := PreW G sz ws U ∧ ThrW sa (va_A ws sz) U
theorem ThrW.same {sa : Nat} {A : Nat → Prop} {u U : State} (hv : U.vm = u.vm) (hh : U.heap = u.heap) (h : ThrW sa A u) : ThrW sa A U := by
  have ha : u.vm.Alike U.vm := by rw [hv]; exact Vm.Alike.refl u.vm
  exact ⟨h.1.same hv, by rw [hh]; exact h.2.1.moved ha, by rw [hh]; exact h.2.2.1.moved ha, h.2.2.2.same hv.symm⟩
theorem ThrW.pass {sa : Nat} {A B : Nat → Prop} {s U : State} {H : Heap} {locs : List Loc} (h : ThrW sa A s) (hS : va_S A s.heap H locs) (hAB : ∀ q, B q → A q) (hU : U.heap = H) (hW : s.WarmedH U.vm) : ThrW sa B U :=
  ⟨h.1.warm hW, by rw [hU]; exact ((h.2.1.kept hS.2.1).moved hW.alike).narrow hAB, by rw [hU]; exact ((h.2.2.1.kept hS.2.1).moved hW.alike).narrow hAB, h.2.2.2.warm hW⟩
theorem blindO {G : GG} {av : List Value} {sa sz : Nat} {wc : va_W} : FrameBlind (va_Pc av (PreO G sa sz wc)) := fun a U g mk q => by
  obtain ⟨q0, q1, q2⟩ := q
  exact ⟨q0, (blindW (av := av) a U g mk ⟨q0, q1⟩).2, q2.same rfl rfl⟩
abbrev odQ (G : GG) (P : Nat → Int32) (x : Int32) (A : Nat → Prop) (ws : va_W) : Array Value → State → Outcome → State → Prop := va_Qi (fun r (_ : Unit) => ∃ q, odC P 30 0 0 x = some q ∧ r = nI q) (fun _ t => PosW G A ws t) A
abbrev odX (G : GG) (P : Nat → Int32) (x : Int32) (A : Nat → Prop) (ws : va_W) : String → State → State → Prop := vx_X (fun (_ : Unit) => odC P 30 0 0 x = none) (fun E _ t => E = nsE ∧ PosW G A ws t) A
theorem ns_hat {p : Program} {s : State} {m : MethodId} {args : Array Value} {meth : Method} {c : Code} {cc : ByteArray} {nL : Nat} {own : String} {w0 : Cond} {ret : Option FieldType} (C : Cx p s m args meth c cc nL own w0 ret) (hc : nsC s) : ∀ w ∈ nsA, w.before args s = true :=
  vx_hat (fun w hw => C.2.2.2.2.1 w (List.mem_cons_of_mem _ (List.mem_filter.mpr ⟨ns_x0 w hw, (List.mem_filter.mp hw).2⟩))) ns_bad (vx_c (va_Nw.use rfl hc.1) (vx_c (va_Nw.use rfl hc.2.1) (vx_c (va_Nw.use rfl hc.2.2.1) (vx_c (va_Nw.use rfl hc.2.2.2) vx_n))))
set_option maxHeartbeats 4000000 in
set_option maxRecDepth 100000 in
theorem od_loop {p : Program} {l : Launch} {e : Env} {s : State} {m : MethodId} {args : Array Value} {below : List Frame} {meth : Method} {c : Code} {w0 : Cond} {G : GG} {A : Nat → Prop} {am as_ ar ac an ath ah : Nat → Nat} {sa : Nat} {m_am t_an p_an : Pic} {x1 : Int32} (hl0 : l.stackTraces = false) (C : Cx p s m args meth c cX8_onDisk 4 RX8 w0 (some .int)) (hnx : ∀ x ∈ c.exceptionTable.toList, False) (hth : ThrW sa A s)
    (hw : Wd G A s s.heap [] (mO G am as_ ar ac an ath ah m_am ++ (tO G an t_an ++ (pO G an p_an ++ [])))) : ∀ (k q a : Nat) (ls : Array Slot), q + k = 30 → odC (p_an.2 4) k q a x1 = odC (p_an.2 4) 30 0 0 x1 → lv_has ls 4 [(3, .int (nI q)), (2, .int (nI a)), (0, .ref (am 99)), (1, .int x1)] →
    W p l e { frames := 6, cells := 1, slots := 6, locals := 82 } s m args below meth c s.heap [] 0 0 (vx_MQ below (odQ G (p_an.2 4) x1 A (mO G am as_ ar ac an ath ah m_am ++ (tO G an t_an ++ (pO G an p_an ++ [])))) (odX G (p_an.2 4) x1 A (mO G am as_ ar ac an ath ah m_am ++ (tO G an t_an ++ (pO G an p_an ++ [])))) args s 1 6 A) (F0 m 4 ls []) := by
  intro k
  induction k with
  | zero =>
    intro q a ls h1 h2 hl
    have hq : q = 30 := by omega
    subst hq
    refine r_iload0 C hl 0 rfl dX8_onDisk_4 ?_
    refine lv_bipush (v := 30) C.1 C.2.1 dX8_onDisk_5 (by decide) ?_
    refine lv_icmp_ge (tgt := 42) C.1 C.2.1 dX8_onDisk_7 (by decide) (fun hc => ?_) (fun hc => absurd (by decide) hc)
    have hts := C.2.2.2.2.1
    refine ns_throw (A := A) (sa := sa) C.1 C.2.1 hl0 C.2.2.2.1 (hts _ (List.mem_cons_of_mem _ ns_k)) (hts _ (List.mem_cons_of_mem _ ns_i)) hth.1 (ns_hat C hth.2.2.2) ns_ot hth.2.1 hth.2.2.1 hw.2.2.2.1 (hl.1.trans C.2.2.1.symm) dX8_onDisk_42 dX8_onDisk_45 dX8_onDisk_46 dX8_onDisk_49 dX8_onDisk_52 (fun x hx => (hnx x hx).elim) (by decide) (by decide) (by decide) (by decide) C.2.2.2.2.2.1 (fun t ha hz hk => ?_) (fun z hz => nomatch hz) (Nat.le_refl _) (Nat.le_refl _)
    refine ⟨(), h2.symm, ⟨rfl, fun k q hk1 => ?_, va_K.moved ha hw.1, hw.2.2.1⟩, hz, fun q hq _ => hk q hq⟩
    exact (hw.2.1 k q hk1).kept (hk q.1 (hw.2.1 k q hk1).lt)
  | succ k ih =>
    intro q a ls h1 h2 hl
    refine r_iload0 C hl 0 rfl dX8_onDisk_4 ?_
    refine lv_bipush (v := 30) C.1 C.2.1 dX8_onDisk_5 (by decide) ?_
    refine lv_icmp_ge (tgt := 42) C.1 C.2.1 dX8_onDisk_7 (by decide) (fun hc => absurd hc (show ¬ (30 : Int32) ≤ nI q from nI_ge (b := 30) (by omega) (by decide))) (fun hc => ?_)
    refine r_aload0 C hl 2 rfl dX8_onDisk_10 ?_
    refine r_get C hw _ (gx_h mO_o) 9 fl_X8_37 rfl dX8_onDisk_11 ?_
    refine r_get C hw _ (gx_t (gx_h tO_o)) 2 fl_X8_105 rfl dX8_onDisk_14 ?_
    refine r_get C hw _ (gx_t (gx_t (gx_h pO_o))) 4 fl_X8_250 rfl dX8_onDisk_17 ?_
    refine r_iload0 C hl 0 rfl dX8_onDisk_20 ?_
    refine r_iald C hw _ (gx_t (gx_t (gx_h pO_g4))) (rA_n (j := q) (by omega) (by decide)) dX8_onDisk_21 ?_
    refine lv_iconst (v := 3) C.1 C.2.1 dX8_onDisk_22 (by decide) ?_
    unfold odC at h2
    refine lv_icmp_ne (tgt := 36) C.1 C.2.1 dX8_onDisk_23 (by decide) (fun hc => ?_) (fun hc => ?_)
    · rw [if_neg hc] at h2
      refine r_iinc C hl 0 (nI (q + 1)) [(3, .int (nI (q + 1))), (2, .int (nI a)), (0, .ref (am 99)), (1, .int x1)] rfl (show nI q + Int32.ofInt 1 = nI (q + 1) from nI_1 q) (by decide) rfl dX8_onDisk_36 (fun ls hl => ?_)
      refine lv_goto (tgt := 4) C.1 C.2.1 dX8_onDisk_39 (by decide) ?_
      exact ih (q + 1) a ls (by omega) h2 hl
    · rw [if_pos hc] at h2
      refine r_iload0 C hl 1 rfl dX8_onDisk_26 ?_
      refine r_iload0 C hl 3 rfl dX8_onDisk_27 ?_
      refine lv_icmp_ne (tgt := 33) C.1 C.2.1 dX8_onDisk_28 (by decide) (fun hc => ?_) (fun hc => ?_)
      · rw [if_neg hc] at h2
        refine r_iinc C hl 1 (nI (a + 1)) [(2, .int (nI (a + 1))), (3, .int (nI q)), (0, .ref (am 99)), (1, .int x1)] rfl (show nI a + Int32.ofInt 1 = nI (a + 1) from nI_1 a) (by decide) rfl dX8_onDisk_33 (fun ls hl => ?_)
        refine r_iinc C hl 1 (nI (q + 1)) [(3, .int (nI (q + 1))), (2, .int (nI (a + 1))), (0, .ref (am 99)), (1, .int x1)] rfl (show nI q + Int32.ofInt 1 = nI (q + 1) from nI_1 q) (by decide) rfl dX8_onDisk_36 (fun ls hl => ?_)
        refine lv_goto (tgt := 4) C.1 C.2.1 dX8_onDisk_39 (by decide) ?_
        exact ih (q + 1) (a + 1) ls (by omega) h2 hl
      · rw [if_pos hc] at h2
        refine r_iload0 C hl 0 rfl dX8_onDisk_31 ?_
        refine W.widen (k := 1) (n := 6) (by decide) (by decide) ?_
        refine vx_ret ?_
        exact W.iret C.1 C.2.1 C.2.2.2.2.2.2 (fun t ht hW => ⟨⟨nI q, (), rfl, ⟨q, h2.symm, rfl⟩, by rw [ht]; exact hw.2.1, va_K.moved hW.alike hw.1, hw.2.2.1⟩, hw.2.2.2.1.F ht⟩) hw.2.2.2.1.2.2 dX8_onDisk_32 C.2.2.2.2.2.1
set_option maxHeartbeats 4000000 in
set_option maxRecDepth 100000 in
theorem c_X8_onDisk (l : Launch) (hl0 : l.stackTraces = false) (G : GG) (am as_ ar ac an ath ah : Nat → Nat) (sa sz : Nat) (m_am t_an p_an : Pic) (x1 : Int32) : vx_Met l yX8_onDisk (.code yX8_onDisk cX8_onDisk 4 (some .int) :: BT) { frames := 6, cells := 1, slots := 6, locals := 82 } (va_Pc [.ref (am 99), .int x1] (PreO G sa sz (mO G am as_ ar ac an ath ah m_am ++ (tO G an t_an ++ (pO G an p_an ++ [])))))
    (odQ G (p_an.2 4) x1 (va_A (mO G am as_ ar ac an ath ah m_am ++ (tO G an t_an ++ (pO G an p_an ++ []))) sz) (mO G am as_ ar ac an ath ah m_am ++ (tO G an t_an ++ (pO G an p_an ++ [])))) (odX G (p_an.2 4) x1 (va_A (mO G am as_ ar ac an ath ah m_am ++ (tO G an t_an ++ (pO G an p_an ++ []))) sz) (mO G am as_ ar ac an ath ah m_am ++ (tO G an t_an ++ (pO G an p_an ++ [])))) 1 6 (va_A (mO G am as_ ar ac an ath ah m_am ++ (tO G an t_an ++ (pO G an p_an ++ []))) sz) := by
  refine vx_ofW (cc := cX8_onDisk) (maxL := 4) (ret := some .int) (by decide) rfl ?_
  intro p e s m args below meth c s₁ B hml hnx hv
  obtain ⟨rfl, ⟨hsz, hP, hK, hD0⟩, hth⟩ := hv
  have hts := atoms_spec (ws := .code yX8_onDisk cX8_onDisk 4 (some .int) :: BT) B.pre
  have hown : s.vm.findClass RX8 = some m.cls := findClass_of_methodNamed B.named
  have hl := lv_entry [.ref (am 99), .int x1] (n := 4) (Nat.le_of_ble_eq_true rfl)
  rw [lg_entry_eq]
  generalize (lg_sl ([.ref (am 99), .int x1]) ++ List.replicate (4 - (lg_sl ([.ref (am 99), .int x1])).length) Slot.unset).toArray = ls at hl ⊢
  have hl : lv_has ls 4 [(0, .ref (am 99)), (1, .int x1)] := hl
  have C : Cx p s m [Value.ref (am 99), .int x1].toArray meth c cX8_onDisk 4 RX8 (.code yX8_onDisk cX8_onDisk 4 (some .int)) (some .int) := ⟨B.exec, B.bytes, hml, hown, hts, B.notSynchronized, B.returns⟩
  have hw : Wd G (va_A (mO G am as_ ar ac an ath ah m_am ++ (tO G an t_an ++ (pO G an p_an ++ []))) sz) s s.heap [] (mO G am as_ ar ac an ath ah m_am ++ (tO G an t_an ++ (pO G an p_an ++ []))) := ⟨hK, hP, hD0.self, va_S.rf, fun q h => Or.inr (by rw [← hsz]; exact h)⟩
  refine lv_iconst (v := 0) C.1 C.2.1 dX8_onDisk_0 (by decide) ?_
  refine r_istore0 C hl [(2, .int 0), (0, .ref (am 99)), (1, .int x1)] (by decide) rfl dX8_onDisk_1 (fun ls hl => ?_)
  refine lv_iconst (v := 0) C.1 C.2.1 dX8_onDisk_2 (by decide) ?_
  refine r_istore0 C hl [(3, .int 0), (2, .int 0), (0, .ref (am 99)), (1, .int x1)] (by decide) rfl dX8_onDisk_3 (fun ls hl => ?_)
  exact od_loop hl0 C hnx hth hw 30 0 0 ls rfl rfl hl
