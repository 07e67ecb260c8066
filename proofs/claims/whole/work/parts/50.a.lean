/-! (C) rows for the law's body -/
theorem va_P.perm {D : va_G} {cl : List vw_C} {ws ws' : va_W} {H : Heap} (hp : ws.Perm ws') (h : va_P D cl ws H) : va_P D cl ws' H := fun k q hk => by
  obtain ⟨j, hj⟩ := List.getElem?_of_mem (hp.mem_iff.mpr (List.mem_of_getElem? hk))
  exact h j q hj
theorem va_D.nd {A : Nat → Prop} {ws : va_W} (h : va_D A ws) : (ws.map Prod.fst).Nodup := by
  unfold List.Nodup
  rw [List.pairwise_iff_getElem]
  intro i j hi hj hij he
  rw [List.length_map] at hi hj
  rw [List.getElem_map, List.getElem_map] at he
  have := h.1 i j ws[i] ws[j] (List.getElem?_eq_getElem hi) (List.getElem?_eq_getElem hj) he
  omega
theorem va_D.ofN {A : Nat → Prop} {ws : va_W} (h : (ws.map Prod.fst).Nodup) (h2 : ∀ q ∈ ws, A q.1) : va_D A ws := by
  refine ⟨fun i j x y hi hj he => ?_, fun k q hk => h2 q (List.mem_of_getElem? hk)⟩
  unfold List.Nodup at h
  rw [List.pairwise_iff_getElem] at h
  obtain ⟨hi1, hi2⟩ := List.getElem?_eq_some_iff.mp hi
  obtain ⟨hj1, hj2⟩ := List.getElem?_eq_some_iff.mp hj
  rcases Nat.lt_trichotomy i j with q | q | q
  · exact absurd (by rw [List.getElem_map, List.getElem_map, hi2, hj2]; exact he) (h i j (by rw [List.length_map]; exact hi1) (by rw [List.length_map]; exact hj1) q)
  · exact q
  · exact absurd (by rw [List.getElem_map, List.getElem_map, hi2, hj2]; exact he.symm) (h j i (by rw [List.length_map]; exact hj1) (by rw [List.length_map]; exact hi1) q)
theorem va_D.perm {A : Nat → Prop} {ws ws' : va_W} (hp : ws.Perm ws') (h : va_D A ws) : va_D A ws' := by
  refine va_D.ofN ((hp.map Prod.fst).nodup_iff.mp h.nd) (fun q hq => ?_)
  obtain ⟨j, hj⟩ := List.getElem?_of_mem (hp.mem_iff.mpr hq)
  exact h.2 j q hj
theorem pm_fl (f : Nat → va_W) {is js : List Nat} (hp : is.Perm js) : ((is.map f).flatten).Perm ((js.map f).flatten) := by
  induction hp with
  | nil => exact List.Perm.refl _
  | cons x _ ih => exact List.Perm.append_left _ ih
  | swap x y l =>
    show (f y ++ (f x ++ (l.map f).flatten)).Perm (f x ++ (f y ++ (l.map f).flatten))
    rw [← List.append_assoc, ← List.append_assoc]
    exact List.Perm.append_right _ List.perm_append_comm
  | trans _ _ h1 h2 => exact h1.trans h2
theorem Wd.prm {G : GG} {A : Nat → Prop} {s : State} {H : Heap} {locs : List Loc} {ws ws' : va_W} (hp : ws.Perm ws') (hw : Wd G A s H locs ws) : Wd G A s H locs ws' := ⟨hw.1, hw.2.1.perm hp, hw.2.2.1.perm hp, hw.2.2.2.1, hw.2.2.2.2⟩
theorem Wd.pm {G : GG} {A : Nat → Prop} {s : State} {H : Heap} {locs : List Loc} (f : Nat → va_W) (is js : List Nat) {ws ws' : va_W} (hp : is.Perm js) (e1 : (is.map f).flatten = ws) (e2 : (js.map f).flatten = ws') (hw : Wd G A s H locs ws) : Wd G A s H locs ws' := by
  subst e1
  subst e2
  exact hw.prm (pm_fl f hp)
/-- the law's script, and what a walk of the law always knows -/
def LK (A : Nat → Prop) (K : SK) (s : State) (b L : Nat) (xs : Nat → Int32) : Prop := va_X b L xs s s.heap ∧ b < s.heap.size ∧ ¬ A b ∧ L ≤ 3072 ∧ NestW s ∧ StrW K A s
section LR
variable {p : Program} {l : Launch} {e : Env} {R : Room} {s : State} {m : MethodId} {args : Array Value} {below : List Frame} {meth : Method} {c : Code} {H : Heap} {locs : List Loc} {cells slots : Nat} {Q : State → Prop}
variable {cc : ByteArray} {nL pc index n maxL mc ms : Nat} {own : String} {w0 : Cond} {ret ret1 : Option FieldType} {ls : Array Slot} {rest As : List Value} {G : GG} {A : Nat → Prop} {K : SK} {a b L i : Nat} {xs : Nat → Int32} {r : Int32} {y : MethodName} {bytes : ByteArray} {rm : Room} {wr wc : va_W} {wf : (Nat → Nat → Nat) → va_W}
theorem r_act (C : Cx p s m args meth c cc nL own w0 ret) (hq : NestW s) (hw : Wd G A s H locs (wr ++ wc)) (hls : ls.size = nL) (KM : MV y bytes maxL ret1 n) (lk : Cond.methodLink own index y ∈ BT)
    (M : Met l y (.code y bytes maxL ret1 :: BT) rm (va_Pc (.ref a :: As) (PreN G H.size wc)) (AnsK G r (va_A wc H.size) wf) mc ms (va_A wc H.size))
    (q0 : Nat) {ci : Nat} {fs : List Value} {T : u_T} {N : Nat} (hrc : (wr ++ wc)[q0]? = some (a, .inr (ci, fs))) (hcl : vwCl[ci]? = some (y.cls, T, N)) (hr1 : rm.cells = mc ∧ rm.slots = ms) (hr2 : rm.frames + 1 ≤ R.frames ∧ 8 + (maxL + 11) + rm.locals ≤ R.locals) (hn : As.length = n) (hcs : cells + mc ≤ R.cells ∧ slots + ms ≤ R.slots)
    {st0 : List Value} (hst : st0 = As.reverse ++ .ref a :: rest) (hW : (rest.map fun v => v.category).sum ≤ 8) (hdg : decode cc pc = .ok (.invokevirtual index, 3))
    (kk : ∀ (ads : Nat → Nat → Nat) (H1 : Heap) (locs1 : List Loc), Wd G A s H1 locs1 (wr ++ wf ads) → W p l e R s m args below meth c H1 locs1 (cells + mc) (slots + ms) Q (F0 m (pc + 3) ls (.int r :: rest))) : W p l e R s m args below meth c H locs cells slots Q (F0 m pc ls st0) := by
  obtain ⟨k1, k2, k3, k4, k5, k6, k7⟩ := KM
  have hts := C.2.2.2.2.1
  have inb : ∀ {w : Cond}, w ∈ BT → w.before args s = true := fun h => hts _ (List.mem_cons_of_mem _ h)
  obtain ⟨hpre, hfr⟩ := hw.tailpre
  have cw : CallW R s args own y.cls index y bytes maxL ret1 (.code y bytes maxL ret1 :: BT) rm mc ms n := ⟨callB_of n hts (goodBT w0 k1) rfl hr1.1 hr1.2 (inb k4) (inb lk) ⟨k5, k6, k7⟩ hr2, inb k2, inb k3⟩
  refine va_calli (va_runV (As := As) (rest := rest) ⟨C.1, C.2.1, C.2.2.1, C.2.2.2.1, hts⟩ M cw ⟨blindN, va_recv hw.1 hw.2.1 hcl hrc, fun U hU hW2 => ⟨rfl, hpre U hU hW2, hq.warm hW2⟩⟩ rfl hn hls hst (lv_room hW) hdg hcs) hw.2.2.2.1 (fun q _ h => hfr q h) hfr (fun r1 ads1 t1 H1 locs1 ht hvm hp hB hz1 hk1 hS => ?_)
  subst hp
  exact kk ads1 H1 locs1 (hw.join hk1 hS ht hB)
/-- script[i + k] -/
theorem r_arg {ws : va_W} {lv : List (Nat × Value)} (C : Cx p s m args meth c cc nL own w0 ret) (hl : lv_has ls nL lv) (I : LK A K s b L xs) (hw : Wd G A s H locs ws) (j0 j4 k : Nat) (hk0 : lv[j0]? = some (0, .ref b)) (hk4 : lv[j4]? = some (4, .int (nI i))) (hi : i + k < L) {kz : Int} (hkz : Int32.ofInt kz = nI k)
    (d1 : decode cc pc = .ok (.aload_n 0, 1)) (d2 : decode cc (pc + 1) = .ok (.iload 4, 2)) (d3 : decode cc (pc + 3) = .ok (.iconst kz, 1)) (d4 : decode cc (pc + 4) = .ok (.iadd, 1)) (d5 : decode cc (pc + 5) = .ok (.iaload, 1))
    (kk : W p l e R s m args below meth c H locs cells slots Q (F0 m (pc + 6) ls (.int (xs (i + k)) :: rest))) : W p l e R s m args below meth c H locs cells slots Q (F0 m pc ls rest) := by
  obtain ⟨h1, h2, h3, h4, -⟩ := I
  refine r_aload0 C hl j0 hk0 d1 ?_
  refine r_iload C hl j4 hk4 d2 ?_
  refine lv_iconst (v := nI k) C.1 C.2.1 d3 hkz ?_
  refine lv_iadd C.1 C.2.1 d4 ?_
  rw [nI_add]
  have hb2 : i + k < 2 ^ 31 := by omega
  refine va_sld C.1 C.2.1 h1 h2 h3 hw.2.2.2.1 (vp_in_nI hi (by omega)) d5 ?_
  have e1 : (nI (i + k)).toNatClampNeg = i + k := nI_clamp hb2
  rw [e1]
  exact kk
end LR
