/-! Arrays.fill, System.arraycopy -/
def flF (n : Nat) (f : Nat → Int32) (v : Int32) : Nat → Int32 := fun j => if j < n then v else f j
def flA (p : Pic) (k n : Nat) (v : Int32) : Pic := (p.1, va_up p.2 k (flF n (p.2 k) v))
def cpA (p : Pic) (k n : Nat) (q : Pic) (k0 n0 : Nat) (sp dp len : Int32) : Option Pic := if sp < 0 ∨ dp < 0 ∨ len < 0 ∨ n0 < sp.toNatClampNeg + len.toNatClampNeg ∨ n < dp.toNatClampNeg + len.toNatClampNeg then none else some (p.1, va_up p.2 k (va_cpy (q.2 k0) (p.2 k) sp.toNatClampNeg dp.toNatClampNeg len.toNatClampNeg))
theorem cpA_in {p p' q : Pic} {k n k0 n0 : Nat} {sp dp len : Int32} (h : cpA p k n q k0 n0 sp dp len = some p') : (¬ sp < 0 ∧ ¬ dp < 0 ∧ ¬ len < 0 ∧ sp.toNatClampNeg + len.toNatClampNeg ≤ n0 ∧ dp.toNatClampNeg + len.toNatClampNeg ≤ n) ∧ p' = (p.1, va_up p.2 k (va_cpy (q.2 k0) (p.2 k) sp.toNatClampNeg dp.toNatClampNeg len.toNatClampNeg)) := by
  unfold cpA at h
  by_cases hc : sp < 0 ∨ dp < 0 ∨ len < 0 ∨ n0 < sp.toNatClampNeg + len.toNatClampNeg ∨ n < dp.toNatClampNeg + len.toNatClampNeg
  · rw [if_pos hc] at h; cases h
  · rw [if_neg hc] at h
    refine ⟨⟨fun q => hc (Or.inl q), fun q => hc (Or.inr (Or.inl q)), fun q => hc (Or.inr (Or.inr (Or.inl q))), ?_, ?_⟩, (Option.some.inj h).symm⟩
    · exact Nat.le_of_not_lt (fun q => hc (Or.inr (Or.inr (Or.inr (Or.inl q)))))
    · exact Nat.le_of_not_lt (fun q => hc (Or.inr (Or.inr (Or.inr (Or.inr q)))))
section JR
variable {p : Program} {l : Launch} {e : Env} {R : Room} {s : State} {m : MethodId} {args : Array Value} {below : List Frame} {meth : Method} {c : Code} {H : Heap} {locs : List Loc} {cells slots : Nat} {Q : State → Prop}
variable {cc : ByteArray} {nL pc : Nat} {own : String} {w0 : Cond} {ret : Option FieldType} {ls : Array Slot} {rest : List Value} {G : GG} {A : Nat → Prop} {ws ws' : va_W} {a a0 : Nat} {lv lv' : List (Nat × Value)}
theorem r_copy {index : Nat} (C : Cx p s m args meth c cc nL own w0 ret) (hw : Wd G A s H locs ws) (hls : ls.size = nL) (lk : Cond.methodLink own index arraycopyName ∈ BT) (q0 q1 : Nat) {pd pd' ps : Pic} {k n k0 n0 : Nat} (ha0 : ws[q0]? = some (a0, .inl (G.2.1, n0, .inl (ps.2 k0)))) (ha1 : ws[q1]? = some (a, .inl (G.2.1, n, .inl (pd.2 k)))) {sp dp len : Int32} (hv : cpA pd k n ps k0 n0 sp dp len = some pd') (ws' : va_W) (hs : pd' = (pd.1, va_up pd.2 k (va_cpy (ps.2 k0) (pd.2 k) sp.toNatClampNeg dp.toNatClampNeg len.toNatClampNeg)) → ws.set q1 (a, .inl (G.2.1, n, .inl (va_cpy (ps.2 k0) (pd.2 k) sp.toNatClampNeg dp.toNatClampNeg len.toNatClampNeg))) = ws')
    (hfr : 1 ≤ R.frames) (hlo : (rest.map fun v => v.category).sum + 18 ≤ R.locals) (hdg : decode cc pc = .ok (.invokestatic index, 3)) (kk : ∀ (H1 : Heap) (locs1 : List Loc), Wd G A s H1 locs1 ws' → W p l e R s m args below meth c H1 locs1 cells slots Q (F0 m (pc + 3) ls rest)) : W p l e R s m args below meth c H locs cells slots Q (F0 m pc ls (.int len :: .int dp :: .ref a :: .int sp :: .ref a0 :: rest)) := by
  obtain ⟨⟨h1, h2, h3, h4, h5⟩, h6⟩ := cpA_in hv
  have hts := C.2.2.2.2.1
  have inb : ∀ {w : Cond}, w ∈ BT → w.before args s = true := fun h => hts _ (List.mem_cons_of_mem _ h)
  refine va_copyi C.1 C.2.1 (by rw [C.2.2.1, hls]) C.2.2.2.1 (inb lk) (inb ac_nat) (inb ac_stat) (inb ac_ini) hw.1 hw.2.1 hw.2.2.1 hw.2.2.2.1 q0 q1 0 0 ha0 ha1 rfl rfl rfl h1 h2 h3 h4 h5 (fun _ _ => rfl) hfr hlo hdg (fun H1 locs1 hP hD hS => ?_)
  rw [hs h6] at hP hD
  exact kk H1 locs1 ⟨hw.1, hP, hD, hS, hw.2.2.2.2⟩
end JR
set_option maxHeartbeats 4000000 in
set_option maxRecDepth 100000 in
theorem c_fill (l : Launch) (G : GG) (a n : Nat) (hn : n < 2 ^ 31) (sz : Nat) (f : Nat → Int32) (v : Int32) : Met l yJ7_fill_53178 (.code yJ7_fill_53178 cJ7_fill_53178 4 none :: BT) { frames := 0, cells := 0, slots := 0, locals := 0 } (va_Pc [.ref a, .int v] (PreW G sz [(a, .inl (G.2.1, n, .inl f))])) (Don G (va_A [(a, .inl (G.2.1, n, .inl f))] sz) [(a, .inl (G.2.1, n, .inl (flF n f v)))]) 0 0 (va_A [(a, .inl (G.2.1, n, .inl f))] sz) := by
  refine Met.into (by decide) (Nat.le_of_ble_eq_true rfl) ?_
  intro p e s m below meth c C hsz ls hl hw
  have hl : lv_has ls 4 [(0, .ref a), (1, .int v)] := hl
  clear hsz
  generalize va_A [(a, .inl (G.2.1, n, .inl f))] sz = A at hw ⊢
  have key : ∀ (k i : Nat), i + k = n → ∀ (H : Heap) (locs : List Loc), Wd G A s H locs [(a, .inl (G.2.1, n, .inl (fun j => if j < i then v else f j)))] → ∀ ls : Array Slot, lv_has ls 4 [(0, .ref a), (1, .int v), (2, .int (nI i)), (3, .int (nI n))] → W p l e { frames := 0, cells := 0, slots := 0, locals := 0 } s m [Value.ref a, Value.int v].toArray below meth c H locs 0 0 (MQ below (Don G A [(a, .inl (G.2.1, n, .inl (flF n f v)))]) [Value.ref a, Value.int v].toArray s 0 0 A) (F0 m 5 ls []) := by
    intro k
    induction k with
    | zero =>
      intro i hi H locs hw ls hl
      have hi : i = n := by omega
      subst hi
      refine r_iload0 C hl 2 rfl dJ7_fill_53178_5 ?_
      refine r_iload0 C hl 3 rfl dJ7_fill_53178_6 ?_
      refine lv_icmp_ge (tgt := 20) C.1 C.2.1 dJ7_fill_53178_7 (by decide) (fun hc => ?_) (fun hc => absurd (nI_le (Nat.le_refl i) hn) hc)
      exact r_vret C hw dJ7_fill_53178_20
    | succ k ih =>
      intro i hi H locs hw ls hl
      have hlt : i < n := by omega
      refine r_iload0 C hl 2 rfl dJ7_fill_53178_5 ?_
      refine r_iload0 C hl 3 rfl dJ7_fill_53178_6 ?_
      refine lv_icmp_ge (tgt := 20) C.1 C.2.1 dJ7_fill_53178_7 (by decide) (fun hc => absurd hc (nI_ge hlt hn)) (fun hc => ?_)
      refine r_aload0 C hl 0 rfl dJ7_fill_53178_10 ?_
      refine r_iload0 C hl 2 rfl dJ7_fill_53178_11 ?_
      refine r_iload0 C hl 1 rfl dJ7_fill_53178_12 ?_
      refine va_iast C.1 C.2.1 hw.1 hw.2.1 hw.2.2.1 hw.2.2.2.1 0 0 rfl rfl (vp_in_nI hlt hn) dJ7_fill_53178_13 (fun H1 locs1 hP hD hS => ?_)
      have e1 : upd (fun j => if j < i then v else f j) (nI i).toNatClampNeg v = (fun j => if j < i + 1 then v else f j) := by
        funext j
        rw [nI_clamp (by omega)]
        unfold upd
        by_cases h1 : j = i
        · rw [if_pos h1, if_pos (by omega)]
        · rw [if_neg h1]
          show (if j < i then v else f j) = _
          by_cases h2 : j < i
          · rw [if_pos h2, if_pos (by omega)]
          · rw [if_neg h2, if_neg (by omega)]
      rw [e1] at hP hD
      refine r_iinc C hl 2 (nI (i + 1)) [(2, .int (nI (i + 1))), (0, .ref a), (1, .int v), (3, .int (nI n))] rfl (by rw [nI_succ]; rfl) (by decide) rfl dJ7_fill_53178_14 (fun ls hl => ?_)
      refine lv_goto (tgt := 5) C.1 C.2.1 dJ7_fill_53178_17 (by decide) ?_
      exact ih (i + 1) (by omega) H1 locs1 ⟨hw.1, hP, hD, hS, hw.2.2.2.2⟩ ls (lv_sub hl [1, 2, 0, 3] rfl)
  refine lv_iconst (v := nI 0) C.1 C.2.1 dJ7_fill_53178_0 (by decide) ?_
  refine r_istore0 C hl [(2, .int (nI 0)), (0, .ref a), (1, .int v)] (by decide) rfl dJ7_fill_53178_1 (fun ls hl => ?_)
  refine r_aload0 C hl 1 rfl dJ7_fill_53178_2 ?_
  refine r_alen C hw 0 rfl (v := nI n) rfl dJ7_fill_53178_3 ?_
  refine r_istore0 C hl [(3, .int (nI n)), (2, .int (nI 0)), (0, .ref a), (1, .int v)] (by decide) rfl dJ7_fill_53178_4 (fun ls hl => ?_)
  have e0 : f = (fun j => if j < 0 then v else f j) := by
    funext j
    rw [if_neg (by omega)]
  rw [e0] at hw
  exact key n 0 (by omega) _ _ hw ls (lv_sub hl [2, 3, 1, 0] rfl)
section JF
variable {p : Program} {l : Launch} {e : Env} {R : Room} {s : State} {m : MethodId} {args : Array Value} {below : List Frame} {meth : Method} {c : Code} {H : Heap} {locs : List Loc} {cells slots : Nat} {Q : State → Prop}
variable {cc : ByteArray} {nL pc : Nat} {own : String} {w0 : Cond} {ret : Option FieldType} {ls : Array Slot} {rest : List Value} {G : GG} {A : Nat → Prop} {ws ws' : va_W} {a a0 : Nat} {lv lv' : List (Nat × Value)}
theorem cut1 {q0 : Nat} {E E' : va_E} (ha : ws[q0]? = some (a, E)) : CutW ws [(a, E)] (ws.set q0 (a, E')) [(a, E')] [q0] ((List.range ws.length).filter (fun i => !(i == q0))) := by
  have hlt : q0 < ws.length := (List.getElem?_eq_some_iff.mp ha).1
  refine ⟨rfl, by simp [ha], by simp [hlt], ?_, ?_, ?_⟩
  · apply List.map_congr_left
    intro i hi
    have hne : i ≠ q0 := by
      have := (List.mem_filter.mp hi).2
      simpa using this
    rw [List.getElem?_set_ne (fun h => hne h.symm)]
  · intro i hi
    by_cases h : i = q0
    · exact Or.inl (by rw [h]; exact List.mem_singleton.mpr rfl)
    · exact Or.inr ⟨List.mem_filter.mpr ⟨List.mem_range.mpr hi, by simpa using h⟩, fun h2 => h (List.mem_singleton.mp h2)⟩
  · rw [List.map_set]
    apply List.ext_getElem?
    intro i
    by_cases h : q0 = i
    · subst h
      rw [List.getElem?_set_self (by simpa using hlt), List.getElem?_map, ha]
      rfl
    · rw [List.getElem?_set_ne h]
theorem r_fill {index : Nat} (C : Cx p s m args meth c cc nL own w0 ret) (hw : Wd G A s H locs ws) (hls : ls.size = nL) (lk : Cond.methodLink own index yJ7_fill_53178 ∈ BT) (q0 : Nat) {pd : Pic} {k n : Nat} (ha : ws[q0]? = some (a, .inl (G.2.1, n, .inl (pd.2 k)))) (hn : n < 2 ^ 31) {v : Int32} (ws' : va_W) (hs : ws.set q0 (a, .inl (G.2.1, n, .inl (flF n (pd.2 k) v))) = ws')
    (hfr : 1 ≤ R.frames) (hlo : 8 + (4 + 11) + 0 ≤ R.locals) (hcs : cells ≤ R.cells ∧ slots ≤ R.slots) (hW : (rest.map fun v => v.category).sum ≤ 8) (hdg : decode cc pc = .ok (.invokestatic index, 3)) (kk : ∀ (H1 : Heap) (locs1 : List Loc), Wd G A s H1 locs1 ws' → W p l e R s m args below meth c H1 locs1 cells slots Q (F0 m (pc + 3) ls rest)) : W p l e R s m args below meth c H locs cells slots Q (F0 m pc ls (.int v :: .ref a :: rest)) := by
  subst hs
  exact r_callSv (As := [.ref a, .int v]) (rest := rest) C hw hls kJ7_fill_53178 lk (c_fill l G a n hn H.size (pd.2 k) v) ⟨_, _, cut1 ha⟩ ⟨rfl, rfl⟩ ⟨hfr, hlo⟩ rfl hcs rfl hW hdg kk
end JF
section JM
variable {p : Program} {l : Launch} {e : Env} {R : Room} {s : State} {m : MethodId} {args : Array Value} {below : List Frame} {meth : Method} {c : Code} {H : Heap} {locs : List Loc} {cells slots : Nat} {Q : State → Prop}
variable {cc : ByteArray} {nL pc : Nat} {own : String} {w0 : Cond} {ret : Option FieldType} {ls : Array Slot} {rest : List Value}
theorem mmin_name : Lib.Math.min.name = yJ9_min_7cf53 := by decide +kernel
theorem mmax_name : Lib.Math.max.name = yJ9_max_7cf53 := by decide +kernel
theorem mmin_code : Lib.Math.min.code = cJ9_min_7cf53 := by decide +kernel
theorem mmax_code : Lib.Math.max.code = cJ9_max_7cf53 := by decide +kernel
theorem r_min {index : Nat} (C : Cx p s m args meth c cc nL own w0 ret) (hls : ls.size = nL) (lk : Cond.methodLink own index yJ9_min_7cf53 ∈ BT) (hfr : 1 ≤ R.frames) (hlo : (rest.map fun v => v.category).sum + 13 ≤ R.locals) (hcs : cells ≤ R.cells ∧ slots ≤ R.slots) {x y : Int32} (hdg : decode cc pc = .ok (.invokestatic index, 3)) (kk : W p l e R s m args below meth c H locs cells slots Q (F0 m (pc + 3) ls (.int (if y < x then y else x) :: rest))) : W p l e R s m args below meth c H locs cells slots Q (F0 m pc ls (.int y :: .int x :: rest)) := by
  have hts := C.2.2.2.2.1
  have inb : ∀ {w : Cond}, w ∈ BT → w.before args s = true := fun h => hts _ (List.mem_cons_of_mem _ h)
  obtain ⟨k1, k2, k4, -⟩ := kJ9_min_7cf53
  exact va_mmin C.1 C.2.1 (by rw [C.2.2.1, hls]) C.2.2.2.1 (by rw [mmin_name]; exact inb lk) (by rw [mmin_name]; exact inb k2) (inb k4) (by rw [mmin_name, mmin_code]; exact inb k1) hfr hlo hcs.1 hcs.2 hdg kk
theorem r_max {index : Nat} (C : Cx p s m args meth c cc nL own w0 ret) (hls : ls.size = nL) (lk : Cond.methodLink own index yJ9_max_7cf53 ∈ BT) (hfr : 1 ≤ R.frames) (hlo : (rest.map fun v => v.category).sum + 13 ≤ R.locals) (hcs : cells ≤ R.cells ∧ slots ≤ R.slots) {x y : Int32} (hdg : decode cc pc = .ok (.invokestatic index, 3)) (kk : W p l e R s m args below meth c H locs cells slots Q (F0 m (pc + 3) ls (.int (if x < y then y else x) :: rest))) : W p l e R s m args below meth c H locs cells slots Q (F0 m pc ls (.int y :: .int x :: rest)) := by
  have hts := C.2.2.2.2.1
  have inb : ∀ {w : Cond}, w ∈ BT → w.before args s = true := fun h => hts _ (List.mem_cons_of_mem _ h)
  obtain ⟨k1, k2, k4, -⟩ := kJ9_max_7cf53
  exact va_mmax C.1 C.2.1 (by rw [C.2.2.1, hls]) C.2.2.2.1 (by rw [mmax_name]; exact inb lk) (by rw [mmax_name]; exact inb k2) (inb k4) (by rw [mmax_name, mmax_code]; exact inb k1) hfr hlo hcs.1 hcs.2 hdg kk
end JM
