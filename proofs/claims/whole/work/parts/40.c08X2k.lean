/-! History.keep, takeBack -/
theorem sw_0 {a b c : va_W} : List.Perm (a ++ (b ++ c)) (b ++ (a ++ c)) := by
  rw [← List.append_assoc, ← List.append_assoc]
  exact List.Perm.append_right c List.perm_append_comm
theorem sw_s {c P Q : va_W} (h : List.Perm P Q) : List.Perm (c ++ P) (c ++ Q) := List.Perm.append_left c h
theorem perm_k (h t p z e a t1 p1 z1 e1 b : va_W) : List.Perm (h ++ (t ++ (p ++ (z ++ (e ++ (a ++ (t1 ++ (p1 ++ (z1 ++ (e1 ++ (b ++ []))))))))))) (h ++ (a ++ (b ++ (t ++ (t1 ++ (p ++ (p1 ++ (z ++ (z1 ++ (e ++ (e1 ++ []))))))))))) := ((sw_s (sw_s (sw_s (sw_s (sw_0)))))).trans (((sw_s (sw_s (sw_s (sw_0))))).trans (((sw_s (sw_s (sw_0)))).trans (((sw_s (sw_0))).trans (((sw_s (sw_s (sw_s (sw_s (sw_s (sw_s (sw_s (sw_s (sw_s (sw_0))))))))))).trans (((sw_s (sw_s (sw_s (sw_s (sw_s (sw_s (sw_s (sw_s (sw_0)))))))))).trans (((sw_s (sw_s (sw_s (sw_s (sw_s (sw_s (sw_s (sw_0))))))))).trans (((sw_s (sw_s (sw_s (sw_s (sw_s (sw_s (sw_0)))))))).trans (((sw_s (sw_s (sw_s (sw_s (sw_s (sw_0))))))).trans (((sw_s (sw_s (sw_s (sw_s (sw_0)))))).trans (((sw_s (sw_s (sw_s (sw_0))))).trans (((sw_s (sw_s (sw_0)))).trans (((sw_s (sw_s (sw_s (sw_s (sw_s (sw_s (sw_0)))))))).trans (((sw_s (sw_s (sw_s (sw_s (sw_s (sw_0))))))).trans (((sw_s (sw_s (sw_s (sw_s (sw_0)))))).trans (((sw_s (sw_s (sw_s (sw_s (sw_s (sw_s (sw_s (sw_0))))))))).trans (((sw_s (sw_s (sw_s (sw_s (sw_s (sw_s (sw_0)))))))).trans ((sw_s (sw_s (sw_s (sw_s (sw_s (sw_s (sw_s (sw_s (sw_0))))))))))))))))))))))))))
theorem va_D.nodup {A : Nat → Prop} {ws : va_W} (h : va_D A ws) : (ws.map Prod.fst).Nodup := by
  rw [List.Nodup, List.pairwise_iff_getElem]
  intro i j hi hj hij heq
  rw [List.length_map] at hi hj
  rw [List.getElem_map, List.getElem_map] at heq
  have := h.1 i j ws[i] ws[j] (List.getElem?_eq_getElem hi) (List.getElem?_eq_getElem hj) heq
  omega
theorem va_D.of {A : Nat → Prop} {ws : va_W} (h : (ws.map Prod.fst).Nodup) (hA : ∀ q ∈ ws, A q.1) : va_D A ws := by
  rw [List.Nodup, List.pairwise_iff_getElem] at h
  refine ⟨fun i j x y hi hj hxy => ?_, fun k q hk => hA q (List.mem_of_getElem? hk)⟩
  obtain ⟨h1, e1⟩ := List.getElem?_eq_some_iff.mp hi
  obtain ⟨h2, e2⟩ := List.getElem?_eq_some_iff.mp hj
  rcases Nat.lt_trichotomy i j with hl | hl | hl
  · exact absurd (by rw [List.getElem_map, List.getElem_map, e1, e2]; exact hxy) (h i j (by rw [List.length_map]; exact h1) (by rw [List.length_map]; exact h2) hl)
  · exact hl
  · exact absurd (by rw [List.getElem_map, List.getElem_map, e1, e2]; exact hxy.symm) (h j i (by rw [List.length_map]; exact h2) (by rw [List.length_map]; exact h1) hl)
theorem Wd.perm {G : GG} {A : Nat → Prop} {s : State} {H : Heap} {locs : List Loc} {ws ws' : va_W} (hw : Wd G A s H locs ws) (hp : List.Perm ws ws') : Wd G A s H locs ws' := by
  obtain ⟨hK, hP, hD, hS, hA⟩ := hw
  refine ⟨hK, fun k q hk => ?_, va_D.of ((hp.map Prod.fst).nodup_iff.mp hD.nodup) (fun q hq => ?_), hS, hA⟩
  · obtain ⟨i, hi⟩ := List.getElem?_of_mem (hp.mem_iff.mpr (List.mem_of_getElem? hk))
    exact hP i q hi
  · obtain ⟨i, hi⟩ := List.getElem?_of_mem (hp.mem_iff.mpr hq)
    exact hD.2 i q hi
def kA (G : GG) (ads : Nat → Nat → Nat) (rs : Nat → Option Q4) (i : Nat) : va_W := (List.range i).flatMap (rgC G ads rs)
def kB (G : GG) (ads : Nat → Nat → Nat) (rs : Nat → Option Q4) (i : Nat) : va_W := (List.range' (i + 1) (9 - i)).flatMap (rgC G ads rs)
theorem kO_cut {G : GG} {ads : Nat → Nat → Nat} {rs : Nat → Option Q4} {i : Nat} (hi : i < 10) : kO G ads rs = kA G ads rs i ++ (rgC G ads rs i ++ kB G ads rs i) := by
  have e : List.range 10 = List.range i ++ (i :: List.range' (i + 1) (9 - i)) := by
    have : ∀ i, i < 10 → List.range 10 = List.range i ++ (i :: List.range' (i + 1) (9 - i)) := by decide
    exact this i hi
  unfold kO
  rw [e, List.flatMap_append, List.flatMap_cons]
  rfl
theorem flat_congr {f g : Nat → va_W} : ∀ l : List Nat, (∀ j ∈ l, f j = g j) → l.flatMap f = l.flatMap g
  | [], _ => rfl
  | a :: l, h => by
    rw [List.flatMap_cons, List.flatMap_cons, h a List.mem_cons_self, flat_congr l (fun j hj => h j (List.mem_cons_of_mem _ hj))]
theorem rgC_ne {G : GG} {ads ads' : Nat → Nat → Nat} {rs rs' : Nat → Option Q4} {j : Nat} (h1 : ads' j = ads j) (h2 : rs' j = rs j) : rgC G ads' rs' j = rgC G ads rs j := by
  unfold rgC
  rw [h2, h1]
theorem kA_up {G : GG} {ads ads' : Nat → Nat → Nat} {rs rs' : Nat → Option Q4} {i : Nat} (h : ∀ j, j ≠ i → ads' j = ads j ∧ rs' j = rs j) : kA G ads' rs' i = kA G ads rs i :=
  flat_congr _ (fun j hj => rgC_ne (h j (by have := List.mem_range.mp hj; omega)).1 (h j (by have := List.mem_range.mp hj; omega)).2)
theorem kB_up {G : GG} {ads ads' : Nat → Nat → Nat} {rs rs' : Nat → Option Q4} {i : Nat} (h : ∀ j, j ≠ i → ads' j = ads j ∧ rs' j = rs j) : kB G ads' rs' i = kB G ads rs i :=
  flat_congr _ (fun j hj => rgC_ne (h j (by have := (List.mem_range'_1.mp hj).1; omega)).1 (h j (by have := (List.mem_range'_1.mp hj).1; omega)).2)
theorem kO_f {G : GG} {ads : Nat → Nat → Nat} {rs : Nat → Option Q4} : (kO G ads rs).map Prod.fst = (kO G ads rs).map Prod.fst := rfl
theorem hO_r {G : GG} {ad : Nat → Nat} {rg : Nat → Option Nat} {q : Pic} : (hO G ad rg q)[1]? = some (ad 0, .inl (G.2.2.2.1, 10, .inr (.inr (.inr (.inr rg))))) := rfl
theorem hO_sr {G : GG} {ad : Nat → Nat} {rg rg' : Nat → Option Nat} {q : Pic} : (hO G ad rg q).set 1 (ad 0, .inl (G.2.2.2.1, 10, .inr (.inr (.inr (.inr rg'))))) = hO G ad rg' q := rfl
/-- what is behind an act: the states kept may lie elsewhere -/
def AnsK (G : GG) (r : Int32) (A : Nat → Prop) (wf : (Nat → Nat → Nat) → va_W) : Array Value → State → Outcome → State → Prop := va_Qi (fun x (_ : Nat → Nat → Nat) => x = r) (fun ads t => PosW G A (wf ads) t) A
def DonK (G : GG) (A : Nat → Prop) (wf : (Nat → Nat → Nat) → va_W) : Array Value → State → Outcome → State → Prop := va_Qv (fun (_ : Nat → Nat → Nat) => True) (fun ads t => PosW G A (wf ads) t) A
section KR
variable {p : Program} {l : Launch} {e : Env} {R : Room} {s : State} {m : MethodId} {args : Array Value} {below : List Frame} {meth : Method} {c : Code} {H : Heap} {locs : List Loc} {cells slots : Nat} {Q : State → Prop}
variable {cc : ByteArray} {nL pc : Nat} {own : String} {w0 : Cond} {ret : Option FieldType} {ls : Array Slot} {rest : List Value} {G : GG} {A : Nat → Prop} {ws ws' : va_W} {a : Nat} {lv lv' : List (Nat × Value)}
theorem Met.intoN {y : MethodName} {maxL : Nat} {rm : Room} {av : List Value} {sz mc ms : Nat} {Qc : Array Value → State → Outcome → State → Prop} (hy : plainName y.cls = true) (hn : (lg_sl av).length ≤ maxL)
    (body : ∀ (p : Program) (e : Env) (s : State) (m : MethodId) (below : List Frame) (meth : Method) (c : Code), Cx p s m av.toArray meth c cc maxL y.cls (.code y cc maxL ret) ret → s.heap.size = sz → NestW s → ∀ ls : Array Slot, lv_has ls maxL (lv_args 0 av) → Wd G (va_A ws sz) s s.heap [] ws → W p l e rm s m av.toArray below meth c s.heap [] 0 0 (MQ below Qc av.toArray s mc ms (va_A ws sz)) (F0 m 0 ls [])) :
    Met l y (.code y cc maxL ret :: BT) rm (va_Pc av (PreN G sz ws)) Qc mc ms (va_A ws sz) := by
  refine Met.ofW (cc := cc) (maxL := maxL) (ret := ret) hy rfl ?_
  intro p e s m args below meth c s₁ B hml hv
  obtain ⟨rfl, ⟨hsz, hP, hK, hD0⟩, hq⟩ := hv
  have hts := atoms_spec (ws := .code y cc maxL ret :: BT) B.pre
  have hown : s.vm.findClass y.cls = some m.cls := findClass_of_methodNamed B.named
  have hl := lv_entry av (n := maxL) hn
  rw [lg_entry_eq]
  refine body p e s m below meth c ⟨B.exec, B.bytes, hml, hown, hts, B.notSynchronized, B.returns⟩ hsz hq _ hl ⟨hK, hP, hD0.self, va_S.rf, fun q h => Or.inr (by rw [← hsz]; exact h)⟩
theorem fin_iK (C : Cx p s m args meth c cc nL own w0 (some .int)) (hw : Wd G A s H locs ws) {α : Type} {o o' : α} (ho : o = o') (F : α → Int32) (Wf : α → (Nat → Nat → Nat) → va_W) (ads : Nat → Nat → Nat) {r : Int32} (hr : r = F o) (hws : ws = Wf o ads) (hdg : decode cc pc = .ok (.ireturn, 1)) : W p l e R s m args below meth c H locs cells slots (MQ below (AnsK G (F o') A (Wf o')) args s cells slots A) (F0 m pc ls [.int r]) := by
  subst ho; subst hr; subst hws
  exact W.iret C.1 C.2.1 C.2.2.2.2.2.2 (fun t ht hW => ⟨⟨_, ads, rfl, rfl, by rw [ht]; exact hw.2.1, va_K.moved hW.alike hw.1, hw.2.2.1⟩, hw.2.2.2.1.F ht⟩) hw.2.2.2.1.2.2 hdg C.2.2.2.2.2.1
theorem fin_zK (C : Cx p s m args meth c cc nL own w0 (some .boolean)) (hw : Wd G A s H locs ws) {r : Int32} (hz : okZ r = some r) {α : Type} {o o' : α} (ho : o = o') (F : α → Int32) (Wf : α → (Nat → Nat → Nat) → va_W) (ads : Nat → Nat → Nat) (hr : r = F o) (hws : ws = Wf o ads) (hdg : decode cc pc = .ok (.ireturn, 1)) : W p l e R s m args below meth c H locs cells slots (MQ below (AnsK G (F o') A (Wf o')) args s cells slots A) (F0 m pc ls [.int r]) := by
  have hn : narrow .boolean (.int r) = .int r := by
    unfold okZ at hz
    by_cases h : narrow .boolean (.int r) = .int r
    · exact h
    · rw [if_neg h] at hz; cases hz
  subst ho; subst hr; subst hws
  exact W.zret C.1 C.2.1 C.2.2.2.2.2.2 hn (fun t ht hW => ⟨⟨_, ads, rfl, rfl, by rw [ht]; exact hw.2.1, va_K.moved hW.alike hw.1, hw.2.2.1⟩, hw.2.2.2.1.F ht⟩) hw.2.2.2.1.2.2 hdg C.2.2.2.2.2.1
end KR
theorem va_rf_some {x : Nat} : va_rf (some x) = .ref x := rfl
theorem va_rf_none : va_rf none = .null := rfl
/-- the world of History, of the State now, and of the states kept -/
def kW (G : GG) (ah an : Nat → Nat) (ads : Nat → Nat → Nat) (h : Pic) (rs : Nat → Option Q4) (t p z e : Pic) : va_W := hO G ah (rgA ads rs) h ++ (tO G an t ++ (pO G an p ++ (zO G an z ++ (eO G an e ++ (kO G ads rs ++ [])))))
theorem kW_perm {G : GG} {ah an : Nat → Nat} {ads : Nat → Nat → Nat} {h : Pic} {rs : Nat → Option Q4} {t p z e : Pic} {i : Nat} {q : Q4} (hi : i < 10) (hq : rs i = some q) : List.Perm (kW G ah an ads h rs t p z e) (hO G ah (rgA ads rs) h ++ (kA G ads rs i ++ (kB G ads rs i ++ (tO G an t ++ (tO G (ads i) q.1 ++ (pO G an p ++ (pO G (ads i) q.2.1 ++ (zO G an z ++ (zO G (ads i) q.2.2.1 ++ (eO G an e ++ (eO G (ads i) q.2.2.2 ++ []))))))))))) := by
  have e1 : kO G ads rs = kA G ads rs i ++ (stW G (ads i) q ++ kB G ads rs i) := by
    rw [kO_cut hi]
    unfold rgC
    rw [hq]
  unfold kW
  rw [e1]
  unfold stW
  have := perm_k (hO G ah (rgA ads rs) h) (tO G an t) (pO G an p) (zO G an z) (eO G an e) (kA G ads rs i) (tO G (ads i) q.1) (pO G (ads i) q.2.1) (zO G (ads i) q.2.2.1) (eO G (ads i) q.2.2.2) (kB G ads rs i)
  simpa only [List.append_assoc, List.nil_append, List.append_nil] using this
theorem kW_new {G : GG} {ah an : Nat → Nat} {ads : Nat → Nat → Nat} {h : Pic} {rs : Nat → Option Q4} {t p z e : Pic} {i : Nat} {u : Nat → Nat} (hi : i < 10) (hq : rs i = none) : List.Perm ((hO G ah (va_up (rgA ads rs) i (some (u 299))) h ++ (tO G an t ++ (pO G an p ++ (zO G an z ++ (eO G an e ++ (kO G ads rs ++ [])))))) ++ stW G u Q0) (kW G ah an (va_up ads i u) h (va_up rs i (some Q0)) t p z e) := by
  have hne : ∀ j, j ≠ i → va_up ads i u j = ads j ∧ va_up rs i (some Q0) j = rs j := fun j hj => ⟨if_neg hj, if_neg hj⟩
  have e1 : kO G ads rs = kA G ads rs i ++ kB G ads rs i := by
    rw [kO_cut hi]
    unfold rgC
    rw [hq]
    rfl
  have e2 : kO G (va_up ads i u) (va_up rs i (some Q0)) = kA G ads rs i ++ (stW G u Q0 ++ kB G ads rs i) := by
    rw [kO_cut hi, kA_up hne, kB_up hne]
    unfold rgC
    rw [show va_up rs i (some Q0) i = some Q0 from if_pos rfl, show va_up ads i u i = u from if_pos rfl]
  have e3 : rgA (va_up ads i u) (va_up rs i (some Q0)) = va_up (rgA ads rs) i (some (u 299)) := by
    funext j
    unfold rgA
    by_cases hj : j = i
    · subst hj
      rw [show va_up rs j (some Q0) j = some Q0 from if_pos rfl, show va_up ads j u j = u from if_pos rfl]
      exact (if_pos rfl).symm
    · rw [(hne j hj).1, (hne j hj).2]
      exact (if_neg hj).symm
  unfold kW
  rw [e1, e2, e3]
  generalize stW G u Q0 = st
  have := (sw_s (sw_s (sw_s (sw_s (sw_s (sw_s (sw_0 (a := kB G ads rs i) (b := st) (c := []))  (c := kA G ads rs i)) (c := eO G an e)) (c := zO G an z)) (c := pO G an p)) (c := tO G an t)) (c := hO G ah (va_up (rgA ads rs) i (some (u 299))) h))
  simpa only [List.append_assoc, List.nil_append, List.append_nil] using this
theorem kW_put {G : GG} {ah an : Nat → Nat} {ads : Nat → Nat → Nat} {h : Pic} {rs : Nat → Option Q4} {t p z e : Pic} {i : Nat} {q' : Q4} (hi : i < 10) : List.Perm (hO G ah (rgA ads (va_up rs i (some q'))) h ++ (kA G ads rs i ++ (kB G ads rs i ++ (tO G an t ++ (tO G (ads i) q'.1 ++ (pO G an p ++ (pO G (ads i) q'.2.1 ++ (zO G an z ++ (zO G (ads i) q'.2.2.1 ++ (eO G an e ++ (eO G (ads i) q'.2.2.2 ++ []))))))))))) (kW G ah an ads h (va_up rs i (some q')) t p z e) := by
  have hne : ∀ j, j ≠ i → ads j = ads j ∧ va_up rs i (some q') j = rs j := fun j hj => ⟨rfl, if_neg hj⟩
  have := (kW_perm (G := G) (ah := ah) (an := an) (ads := ads) (h := h) (rs := va_up rs i (some q')) (t := t) (p := p) (z := z) (e := e) hi (if_pos rfl)).symm
  rw [kA_up hne, kB_up hne] at this
  exact this
theorem rgA_same {ads : Nat → Nat → Nat} {rs : Nat → Option Q4} {i : Nat} {q q' : Q4} (hq : rs i = some q) : rgA ads (va_up rs i (some q')) = rgA ads rs := by
  funext j
  unfold rgA
  by_cases hj : j = i
  · subst hj
    rw [show va_up rs j (some q') j = some q' from if_pos rfl, hq]
    rfl
  · rw [show va_up rs i (some q') j = rs j from if_neg hj]
theorem cpQ_in {t p z e : Pic} {q q' : Q4} (h : cpQ t p z e q = some q') : f_X6_copyFrom t q.1 p q.2.1 z q.2.2.1 e q.2.2.2 = some (q'.1, q'.2.1, q'.2.2.1, q'.2.2.2) := by
  unfold cpQ at h
  obtain ⟨u, hu, h⟩ := bx h
  rw [hu]
  have := Option.some.inj h
  subst this
  rfl
theorem perm_t (h t p z e a t1 p1 z1 e1 b : va_W) : List.Perm (h ++ (t ++ (p ++ (z ++ (e ++ (a ++ (t1 ++ (p1 ++ (z1 ++ (e1 ++ (b ++ []))))))))))) (h ++ (a ++ (b ++ (t1 ++ (t ++ (p1 ++ (p ++ (z1 ++ (z ++ (e1 ++ (e ++ []))))))))))) := ((sw_s (sw_s (sw_s (sw_s (sw_0)))))).trans (((sw_s (sw_s (sw_s (sw_0))))).trans (((sw_s (sw_s (sw_0)))).trans (((sw_s (sw_0))).trans (((sw_s (sw_s (sw_s (sw_s (sw_s (sw_s (sw_s (sw_s (sw_s (sw_0))))))))))).trans (((sw_s (sw_s (sw_s (sw_s (sw_s (sw_s (sw_s (sw_s (sw_0)))))))))).trans (((sw_s (sw_s (sw_s (sw_s (sw_s (sw_s (sw_s (sw_0))))))))).trans (((sw_s (sw_s (sw_s (sw_s (sw_s (sw_s (sw_0)))))))).trans (((sw_s (sw_s (sw_s (sw_s (sw_s (sw_0))))))).trans (((sw_s (sw_s (sw_s (sw_s (sw_0)))))).trans (((sw_s (sw_s (sw_s (sw_0))))).trans (((sw_s (sw_s (sw_0)))).trans (((sw_s (sw_s (sw_s (sw_s (sw_s (sw_s (sw_0)))))))).trans (((sw_s (sw_s (sw_s (sw_s (sw_s (sw_0))))))).trans (((sw_s (sw_s (sw_s (sw_s (sw_0)))))).trans (((sw_s (sw_s (sw_s (sw_0))))).trans (((sw_s (sw_s (sw_s (sw_s (sw_s (sw_s (sw_s (sw_0))))))))).trans (((sw_s (sw_s (sw_s (sw_s (sw_s (sw_s (sw_0)))))))).trans (((sw_s (sw_s (sw_s (sw_s (sw_s (sw_0))))))).trans (((sw_s (sw_s (sw_s (sw_s (sw_s (sw_s (sw_s (sw_s (sw_0)))))))))).trans (((sw_s (sw_s (sw_s (sw_s (sw_s (sw_s (sw_s (sw_0))))))))).trans ((sw_s (sw_s (sw_s (sw_s (sw_s (sw_s (sw_s (sw_s (sw_s (sw_0)))))))))))))))))))))))))))))))
theorem kW_permT {G : GG} {ah an : Nat → Nat} {ads : Nat → Nat → Nat} {h : Pic} {rs : Nat → Option Q4} {t p z e : Pic} {i : Nat} {q : Q4} (hi : i < 10) (hq : rs i = some q) : List.Perm (kW G ah an ads h rs t p z e) (hO G ah (rgA ads rs) h ++ (kA G ads rs i ++ (kB G ads rs i ++ (tO G (ads i) q.1 ++ (tO G an t ++ (pO G (ads i) q.2.1 ++ (pO G an p ++ (zO G (ads i) q.2.2.1 ++ (zO G an z ++ (eO G (ads i) q.2.2.2 ++ (eO G an e ++ []))))))))))) := by
  have e1 : kO G ads rs = kA G ads rs i ++ (stW G (ads i) q ++ kB G ads rs i) := by
    rw [kO_cut hi]
    unfold rgC
    rw [hq]
  unfold kW
  rw [e1]
  unfold stW
  have := perm_t (hO G ah (rgA ads rs) h) (tO G an t) (pO G an p) (zO G an z) (eO G an e) (kA G ads rs i) (tO G (ads i) q.1) (pO G (ads i) q.2.1) (zO G (ads i) q.2.2.1) (eO G (ads i) q.2.2.2) (kB G ads rs i)
  simpa only [List.append_assoc, List.nil_append, List.append_nil] using this
section KK
variable {p : Program} {l : Launch} {e : Env} {R : Room} {s : State} {m : MethodId} {args : Array Value} {below : List Frame} {meth : Method} {c : Code} {H : Heap} {locs : List Loc} {cells slots : Nat} {Q : State → Prop}
variable {cc : ByteArray} {nL pc : Nat} {own : String} {w0 : Cond} {ret : Option FieldType} {ls : Array Slot} {rest : List Value} {G : GG} {A : Nat → Prop} {ws ws' : va_W} {a : Nat}
theorem r_aald (C : Cx p s m args meth c cc nL own w0 ret) (hw : Wd G A s H locs ws) {q0 : Nat} {f : Nat → Option Nat} (ha : ws[q0]? = some (a, .inl (G.2.2.2.1, 10, .inr (.inr (.inr (.inr f)))))) {i : Int32} (hin : vp_in i 10) {v : Value} (hv : va_rf (f i.toNatClampNeg) = v) (hdg : decode cc pc = .ok (.aaload, 1)) (kk : W p l e R s m args below meth c H locs cells slots Q (F0 m (pc + 1) ls (v :: rest))) : W p l e R s m args below meth c H locs cells slots Q (F0 m pc ls (.int i :: .ref a :: rest)) := by
  subst hv
  exact va_aldq C.1 C.2.1 hw.1 hw.2.1 q0 2 ha rfl hin hdg kk
theorem r_aast (C : Cx p s m args meth c cc nL own w0 ret) (hw : Wd G A s H locs ws) {q0 qk : Nat} {f : Nat → Option Nat} {v : Nat} {vs : List Value} (ha : ws[q0]? = some (a, .inl (G.2.2.2.1, 10, .inr (.inr (.inr (.inr f)))))) (hk : ws[qk]? = some (v, .inr (5, vs))) {i : Int32} (hin : vp_in i 10) (ws' : va_W) (hs : ws.set q0 (a, .inl (G.2.2.2.1, 10, .inr (.inr (.inr (.inr (va_up f i.toNatClampNeg (some v))))))) = ws') (hdg : decode cc pc = .ok (.aastore, 1)) (kk : ∀ (H1 : Heap) (locs1 : List Loc), Wd G A s H1 locs1 ws' → W p l e R s m args below meth c H1 locs1 cells slots Q (F0 m (pc + 1) ls rest)) : W p l e R s m args below meth c H locs cells slots Q (F0 m pc ls (.ref v :: .int i :: .ref a :: rest)) := by
  refine va_astq (r := (RX6, TX6, 3)) C.1 C.2.1 hw.1 hw.2.1 hw.2.2.1 hw.2.2.2.1 q0 2 qk 5 ha rfl hk rfl hin hdg (fun H1 locs1 hP hD hS => ?_)
  rw [hs] at hP hD
  exact kk H1 locs1 ⟨hw.1, hP, hD, hS, hw.2.2.2.2⟩
end KK
set_option maxHeartbeats 4000000 in
set_option maxRecDepth 100000 in
theorem c_X2_keep (l : Launch) (G : GG) (ah an : Nat → Nat) (ads : Nat → Nat → Nat) (sz : Nat) (h : Pic) (rs : Nat → Option Q4) (t p_ z e_ : Pic) (out : Pic × (Nat → Option Q4)) (hf : f_X2_keep h rs t p_ z e_ = some out) : Met l yX2_keep (.code yX2_keep cX2_keep 2 none :: BT) ({ frames := 4, cells := 19, slots := 1368, locals := 89 }) (va_Pc [.ref (ah 99), .ref (an 299)] (PreN G sz (kW G ah an ads h rs t p_ z e_))) (DonK G (va_A (kW G ah an ads h rs t p_ z e_) sz) (fun ads => kW G ah an ads out.1 out.2 t p_ z e_)) 19 1368 (va_A (kW G ah an ads h rs t p_ z e_) sz) := by
  refine Met.intoN (by decide) (Nat.le_of_ble_eq_true rfl) ?_
  intro p e s m below meth c C hsz hq ls hl hw
  have hl : lv_has ls 2 [(0, .ref (ah 99)), (1, .ref (an 299))] := hl
  clear hsz
  generalize va_A (kW G ah an ads h rs t p_ z e_) sz = A at hw ⊢
  unfold f_X2_keep at hf
  obtain ⟨h1, e1, hf⟩ := bx hf
  have hin : vp_in (gS h1 1) 10 := by
    intro hc
    rw [if_pos hc] at hf
    cases hf
  replace hf := ifn hf hin
  obtain ⟨q', eq, hf⟩ := bx hf
  obtain ⟨h2, e2, hf⟩ := bx hf
  have hi : (gS h1 1).toNatClampNeg < 10 := by
    have := hin
    unfold vp_in at this
    omega
  generalize hie : (gS h1 1).toNatClampNeg = i at hi eq hf
  -- from the copying on
  have tail : ∀ (ads : Nat → Nat → Nat) (rs0 : Nat → Option Q4) (q : Q4), rs0 i = some q → cpQ t p_ z e_ q = some q' → va_up rs0 i (some q') = va_up rs i (some q') → ∀ (cells slots : Nat), cells ≤ 19 → slots ≤ 1368 → ∀ (H : Heap) (locs : List Loc), Wd G A s H locs (kW G ah an ads h1 rs0 t p_ z e_) → W p l e { frames := 4, cells := 19, slots := 1368, locals := 89 } s m [Value.ref (ah 99), Value.ref (an 299)].toArray below meth c H locs cells slots (MQ below (DonK G A (fun ads => kW G ah an ads out.1 out.2 t p_ z e_)) [Value.ref (ah 99), Value.ref (an 299)].toArray s 19 1368 A) (F0 m 42 ls []) := by
    intro ads rs0 q hq0 hcp hup cells slots hcl hsl H locs hw
    refine r_aload0 C hl 0 rfl dX2_keep_42 ?_
    refine r_get C hw _ (gx_h hO_o) 0 fl_X2_11 rfl dX2_keep_43 ?_
    refine r_aload0 C hl 0 rfl dX2_keep_46 ?_
    refine r_get C hw _ (gx_h hO_o) 1 fl_X2_21 rfl dX2_keep_47 ?_
    refine r_aald C hw (gx_h hO_r) hin (v := .ref (ads i 299)) (by rw [hie]; unfold rgA; rw [hq0]; rfl) dX2_keep_50 ?_
    refine r_aload0 C hl 1 rfl dX2_keep_51 ?_
    have hwp := hw.perm (kW_perm hi hq0)
    refine r_callVv (ws' := hO G ah (rgA ads rs0) h1 ++ (kA G ads rs0 i ++ (kB G ads rs0 i ++ (tO G an t ++ (tO G (ads i) q'.1 ++ (pO G an p_ ++ (pO G (ads i) q'.2.1 ++ (zO G an z ++ (zO G (ads i) q'.2.2.1 ++ (eO G an e_ ++ (eO G (ads i) q'.2.2.2 ++ []))))))))))) (As := [.ref (an 299)]) (rest := []) C hwp hl.1 kX6_copyFrom ml_X2_25 (c_X6_copyFrom l G (ads i) an _ t q.1 p_ q.2.1 z q.2.2.1 e_ q.2.2.2 _ (cpQ_in hcp)) (CutX.skip (CutX.skip (CutX.skip (CutX.take tO_f (CutX.take tO_f (CutX.take pO_f (CutX.take pO_f (CutX.take zO_f (CutX.take zO_f (CutX.take eO_f (CutX.take eO_f CutX.none))))))))))) _ (gx_t (gx_t (gx_t (gx_t (gx_h tO_o))))) rfl ⟨rfl, rfl⟩ ⟨Nat.le_of_ble_eq_true rfl, Nat.le_of_ble_eq_true rfl⟩ rfl ⟨hcl, hsl⟩ rfl (Nat.le_of_ble_eq_true rfl) dX2_keep_52 (fun H locs hw => ?_)
    rw [← rgA_same (ads := ads) (q' := q') hq0] at hw
    have hw := hw.perm (kW_put hi)
    rw [hup] at hw
    refine r_aload0 C hl 0 rfl dX2_keep_55 ?_
    refine lv_dup C.1 C.2.1 dX2_keep_56 rfl ?_
    refine r_get C hw _ (gx_h hO_o) 1 fl_X2_21 rfl dX2_keep_57 ?_
    refine lv_iconst (v := 1) C.1 C.2.1 dX2_keep_60 (by decide) ?_
    refine lv_iadd C.1 C.2.1 dX2_keep_61 ?_
    refine r_put C hw _ (gx_h hO_o) 1 fp_X2_21 rfl rfl (Nat.le_of_ble_eq_true rfl) (kW G ah an ads h2 (va_up rs i (some q')) t p_ z e_) (sx_h hO_o (hO_p1 e2)) dX2_keep_62 (fun H locs hw => ?_)
    refine r_aload0 C hl 0 rfl dX2_keep_65 ?_
    refine lv_bipush (v := 10) C.1 C.2.1 dX2_keep_66 (by decide) ?_
    refine r_aload0 C hl 0 rfl dX2_keep_68 ?_
    refine r_get C hw _ (gx_h hO_o) 2 fl_X2_17 rfl dX2_keep_69 ?_
    refine lv_iconst (v := 1) C.1 C.2.1 dX2_keep_72 (by decide) ?_
    refine lv_iadd C.1 C.2.1 dX2_keep_73 ?_
    refine r_min C hl.1 ml_X2_29 (Nat.le_of_ble_eq_true rfl) (Nat.le_of_ble_eq_true rfl) ⟨hcl, hsl⟩ dX2_keep_74 ?_
    refine r_put C hw _ (gx_h hO_o) 2 fp_X2_17 rfl rfl (Nat.le_of_ble_eq_true rfl) (kW G ah an ads (pS h2 2 (if gS h2 2 + 1 < 10 then gS h2 2 + 1 else 10)) (va_up rs i (some q')) t p_ z e_) (sx_h hO_o (hO_p2 rfl)) dX2_keep_77 (fun H locs hw => ?_)
    refine W.widen (k := 19) (n := 1368) hcl hsl ?_
    have ho := Option.some.inj hf
    rw [← ho]
    exact W.vret C.1 C.2.1 C.2.2.2.2.2.2 (fun t ht hW => ⟨⟨ads, rfl, trivial, by rw [ht]; exact hw.2.1, va_K.moved hW.alike hw.1, hw.2.2.1⟩, hw.2.2.2.1.F ht⟩) hw.2.2.2.1.2.2 dX2_keep_80 C.2.2.2.2.2.1
  -- from the place in the ring on
  have mid : ∀ (H : Heap) (locs : List Loc), Wd G A s H locs (kW G ah an ads h1 rs t p_ z e_) → W p l e { frames := 4, cells := 19, slots := 1368, locals := 89 } s m [Value.ref (ah 99), Value.ref (an 299)].toArray below meth c H locs 0 0 (MQ below (DonK G A (fun ads => kW G ah an ads out.1 out.2 t p_ z e_)) [Value.ref (ah 99), Value.ref (an 299)].toArray s 19 1368 A) (F0 m 14 ls []) := by
    intro H locs hw
    refine r_aload0 C hl 0 rfl dX2_keep_14 ?_
    refine r_get C hw _ (gx_h hO_o) 0 fl_X2_11 rfl dX2_keep_15 ?_
    refine r_aload0 C hl 0 rfl dX2_keep_18 ?_
    refine r_get C hw _ (gx_h hO_o) 1 fl_X2_21 rfl dX2_keep_19 ?_
    cases hr : rs i with
    | some q =>
      refine r_aald C hw (gx_h hO_r) hin (v := .ref (ads i 299)) (by rw [hie]; unfold rgA; rw [hr]; rfl) dX2_keep_22 ?_
      refine lv_ifnonnull (tgt := 42) C.1 C.2.1 dX2_keep_23 (by decide) ?_
      rw [hr] at eq
      exact tail ads rs q hr eq rfl 0 0 (Nat.zero_le _) (Nat.zero_le _) H locs hw
    | none =>
      refine r_aald C hw (gx_h hO_r) hin (v := .null) (by rw [hie]; unfold rgA; rw [hr]; rfl) dX2_keep_22 ?_
      refine lv_ifnonnullN C.1 C.2.1 dX2_keep_23 ?_
      refine r_aload0 C hl 0 rfl dX2_keep_26 ?_
      refine r_get C hw _ (gx_h hO_o) 0 fl_X2_11 rfl dX2_keep_27 ?_
      refine r_aload0 C hl 0 rfl dX2_keep_30 ?_
      refine r_get C hw _ (gx_h hO_o) 1 fl_X2_21 rfl dX2_keep_31 ?_
      refine r_new (ci := 5) (ty := tyX6) C hw ⟨RX6, TX6, rfl, inBX6, tyX6_ok, cl_X2_9, inst_X6, ini_X6⟩ [.null, .null, .null] (by decide +kernel) (Nat.le_of_ble_eq_true rfl) (Nat.le_of_ble_eq_true rfl) dX2_keep_34 (fun q1 H hw => ?_)
      refine lv_dup C.1 C.2.1 dX2_keep_37 rfl ?_
      refine r_ctorN (zf := fun u => tO G u P0 ++ (pO G u PL ++ (zO G u P0 ++ (eO G u P0 ++ [])))) (ob := 299) (E := .inr (5, [.null, .null, .null])) C hq hw hl.1 ki_X6 ini_X6 (by decide +kernel) (by decide +kernel) (ci_X6 l G q1 _) ⟨rfl, rfl⟩ ⟨Nat.le_of_ble_eq_true rfl, Nat.le_of_ble_eq_true rfl⟩ ⟨Nat.le_of_ble_eq_true rfl, Nat.le_of_ble_eq_true rfl⟩ (Nat.le_of_ble_eq_true rfl) dX2_keep_38 (fun u => kW G ah an ads h1 rs t p_ z e_ ++ stW G u Q0) (fun _ => rfl) (fun u H locs hu hwn => ?_)
      subst hu
      have hwn : Wd G A s H locs (kW G ah an ads h1 rs t p_ z e_ ++ stW G u Q0) := hwn
      refine r_aast C hwn (gx_h (gx_h hO_r)) (gx_t (gx_h tO_o)) hin ((hO G ah (va_up (rgA ads rs) i (some (u 299))) h1 ++ (tO G an t ++ (pO G an p_ ++ (zO G an z ++ (eO G an e_ ++ (kO G ads rs ++ [])))))) ++ stW G u Q0) (by rw [hie]; exact sx_h (gx_h hO_r) (sx_h hO_r hO_sr)) dX2_keep_41 (fun H locs hw => ?_)
      have hw := hw.perm (kW_new hi hr)
      rw [hr] at eq
      refine tail (va_up ads i u) (va_up rs i (some Q0)) Q0 (if_pos rfl) eq ?_ _ _ (Nat.le_of_ble_eq_true rfl) (Nat.le_of_ble_eq_true rfl) H locs hw
      funext j
      by_cases hj : j = i
      · subst hj
        exact (if_pos rfl).trans (if_pos rfl).symm
      · exact ((if_neg hj).trans (if_neg hj)).trans (if_neg hj).symm
  refine r_aload0 C hl 0 rfl dX2_keep_0 ?_
  refine r_get C hw _ (gx_h hO_o) 1 fl_X2_21 rfl dX2_keep_1 ?_
  refine lv_bipush (v := 10) C.1 C.2.1 dX2_keep_4 (by decide) ?_
  have e1' := Option.some.inj e1
  refine lv_icmp_lt (tgt := 14) C.1 C.2.1 dX2_keep_6 (by decide) (fun hc => ?_) (fun hc => ?_)
  · rw [if_pos hc] at e1'
    subst e1'
    exact mid _ _ hw
  · rw [if_neg hc] at e1'
    refine r_aload0 C hl 0 rfl dX2_keep_9 ?_
    refine lv_iconst (v := 0) C.1 C.2.1 dX2_keep_10 (by decide) ?_
    refine r_put C hw _ (gx_h hO_o) 1 fp_X2_21 rfl rfl (Nat.le_of_ble_eq_true rfl) (kW G ah an ads h1 rs t p_ z e_) (sx_h hO_o (hO_p1 (congrArg some e1'))) dX2_keep_11 (fun H locs hw => ?_)
    exact mid _ _ hw
set_option maxHeartbeats 4000000 in
set_option maxRecDepth 100000 in
theorem c_X2_takeBack (l : Launch) (G : GG) (ah an : Nat → Nat) (ads : Nat → Nat → Nat) (sz : Nat) (h t p_ z e_ : Pic) (rs : Nat → Option Q4) (out : Int32 × Pic × Pic × Pic × Pic × Pic) (hf : f_X2_takeBack h t p_ z e_ rs = some out) : Met l yX2_takeBack (.code yX2_takeBack cX2_takeBack 3 (some .boolean) :: BT) ({ frames := 4, cells := 0, slots := 0, locals := 89 }) (va_Pc [.ref (ah 99), .ref (an 299)] (PreW G sz (kW G ah an ads h rs t p_ z e_))) (Ans G out.1 (va_A (kW G ah an ads h rs t p_ z e_) sz) (kW G ah an ads out.2.1 rs out.2.2.1 out.2.2.2.1 out.2.2.2.2.1 out.2.2.2.2.2)) 0 0 (va_A (kW G ah an ads h rs t p_ z e_) sz) := by
  refine Met.into (by decide) (Nat.le_of_ble_eq_true rfl) ?_
  intro p e s m below meth c C hsz ls hl hw
  have hl : lv_has ls 3 [(0, .ref (ah 99)), (1, .ref (an 299))] := hl
  clear hsz
  generalize va_A (kW G ah an ads h rs t p_ z e_) sz = A at hw ⊢
  unfold f_X2_takeBack at hf
  obtain ⟨h1, e1, hf⟩ := bx hf
  have hin : vp_in (gS h1 1 - 1) 10 := by
    intro hc
    rw [if_pos hc] at hf
    cases hf
  replace hf := ifn hf hin
  have hi : (gS h1 1 - 1).toNatClampNeg < 10 := by
    have := hin
    unfold vp_in at this
    omega
  generalize hie : (gS h1 1 - 1).toNatClampNeg = i at hi hf
  have no : ∀ (H : Heap) (locs : List Loc) (ls : Array Slot), some ((0 : Int32), h1, t, p_, z, e_) = some out → Wd G A s H locs (kW G ah an ads h1 rs t p_ z e_) → W p l e { frames := 4, cells := 0, slots := 0, locals := 89 } s m [Value.ref (ah 99), Value.ref (an 299)].toArray below meth c H locs 0 0 (MQ below (Ans G out.1 A (kW G ah an ads out.2.1 rs out.2.2.1 out.2.2.2.1 out.2.2.2.2.1 out.2.2.2.2.2)) [Value.ref (ah 99), Value.ref (an 299)].toArray s 0 0 A) (F0 m 36 ls []) := by
    intro H locs ls hf hw
    refine lv_iconst (v := 0) C.1 C.2.1 dX2_takeBack_36 (by decide) ?_
    exact fin_z C hw (by decide) (Option.some.inj hf) (fun o => o.1) (fun o => kW G ah an ads o.2.1 rs o.2.2.1 o.2.2.2.1 o.2.2.2.2.1 o.2.2.2.2.2) rfl rfl dX2_takeBack_37
  have mid : ∀ (H : Heap) (locs : List Loc), Wd G A s H locs (kW G ah an ads h1 rs t p_ z e_) → W p l e { frames := 4, cells := 0, slots := 0, locals := 89 } s m [Value.ref (ah 99), Value.ref (an 299)].toArray below meth c H locs 0 0 (MQ below (Ans G out.1 A (kW G ah an ads out.2.1 rs out.2.2.1 out.2.2.2.1 out.2.2.2.2.1 out.2.2.2.2.2)) [Value.ref (ah 99), Value.ref (an 299)].toArray s 0 0 A) (F0 m 13 ls []) := by
    intro H locs hw
    refine r_aload0 C hl 0 rfl dX2_takeBack_13 ?_
    refine r_get C hw _ (gx_h hO_o) 0 fl_X2_11 rfl dX2_takeBack_14 ?_
    refine r_aload0 C hl 0 rfl dX2_takeBack_17 ?_
    refine r_get C hw _ (gx_h hO_o) 1 fl_X2_21 rfl dX2_takeBack_18 ?_
    refine lv_iconst (v := 1) C.1 C.2.1 dX2_takeBack_21 (by decide) ?_
    refine lv_isub C.1 C.2.1 dX2_takeBack_22 ?_
    cases hr : rs i with
    | none =>
      refine r_aald C hw (gx_h hO_r) hin (v := .null) (by rw [hie]; unfold rgA; rw [hr]; rfl) dX2_takeBack_23 ?_
      refine lv_astore_nN (lv' := [(2, .null), (0, .ref (ah 99)), (1, .ref (an 299))]) C.1 C.2.1 dX2_takeBack_24 rfl hl (by decide) rfl (fun ls hl => ?_)
      refine r_aload0 C hl 1 rfl dX2_takeBack_25 ?_
      refine r_get C hw _ (gx_h hO_o) 2 fl_X2_17 rfl dX2_takeBack_26 ?_
      refine lv_if_le (tgt := 36) C.1 C.2.1 dX2_takeBack_29 (by decide) (fun hc => ?_) (fun hc => ?_)
      · exact no _ _ _ (ifp hf hc) hw
      · refine lv_aload_nN C.1 C.2.1 dX2_takeBack_32 rfl (lv_at hl 0 rfl) ?_
        refine lv_ifnonnullN C.1 C.2.1 dX2_takeBack_33 ?_
        replace hf := ifn hf hc
        rw [hr] at hf
        exact no _ _ _ hf hw
    | some q =>
      refine r_aald C hw (gx_h hO_r) hin (v := .ref (ads i 299)) (by rw [hie]; unfold rgA; rw [hr]; rfl) dX2_takeBack_23 ?_
      refine r_astore0 C hl [(2, .ref (ads i 299)), (0, .ref (ah 99)), (1, .ref (an 299))] (by decide) rfl dX2_takeBack_24 (fun ls hl => ?_)
      refine r_aload0 C hl 1 rfl dX2_takeBack_25 ?_
      refine r_get C hw _ (gx_h hO_o) 2 fl_X2_17 rfl dX2_takeBack_26 ?_
      refine lv_if_le (tgt := 36) C.1 C.2.1 dX2_takeBack_29 (by decide) (fun hc => ?_) (fun hc => ?_)
      · exact no _ _ _ (ifp hf hc) hw
      · refine r_aload0 C hl 0 rfl dX2_takeBack_32 ?_
        refine lv_ifnonnull (tgt := 38) C.1 C.2.1 dX2_takeBack_33 (by decide) ?_
        replace hf := ifn hf hc
        rw [hr] at hf
        obtain ⟨n, en, hf⟩ := bx hf
        obtain ⟨h2, e2, hf⟩ := bx hf
        refine r_aload0 C hl 2 rfl dX2_takeBack_38 ?_
        refine r_aload0 C hl 0 rfl dX2_takeBack_39 ?_
        have hwp := hw.perm (kW_permT hi hr)
        refine r_callVv (ws' := hO G ah (rgA ads rs) h1 ++ (kA G ads rs i ++ (kB G ads rs i ++ (tO G (ads i) q.1 ++ (tO G an n.1 ++ (pO G (ads i) q.2.1 ++ (pO G an n.2.1 ++ (zO G (ads i) q.2.2.1 ++ (zO G an n.2.2.1 ++ (eO G (ads i) q.2.2.2 ++ (eO G an n.2.2.2 ++ []))))))))))) (As := [.ref (ads i 299)]) (rest := []) C hwp hl.1 kX6_copyFrom ml_X2_25 (c_X6_copyFrom l G an (ads i) _ q.1 t q.2.1 p_ q.2.2.1 z q.2.2.2 e_ _ (cpQ_in en)) (CutX.skip (CutX.skip (CutX.skip (CutX.take tO_f (CutX.take tO_f (CutX.take pO_f (CutX.take pO_f (CutX.take zO_f (CutX.take zO_f (CutX.take eO_f (CutX.take eO_f CutX.none))))))))))) _ (gx_t (gx_t (gx_t (gx_t (gx_h tO_o))))) rfl ⟨rfl, rfl⟩ ⟨Nat.le_of_ble_eq_true rfl, Nat.le_of_ble_eq_true rfl⟩ rfl ⟨Nat.zero_le _, Nat.zero_le _⟩ rfl (Nat.le_of_ble_eq_true rfl) dX2_takeBack_40 (fun H locs hw => ?_)
        have hw := hw.perm (kW_permT (G := G) (ah := ah) (an := an) (ads := ads) (h := h1) (rs := rs) (t := n.1) (p := n.2.1) (z := n.2.2.1) (e := n.2.2.2) hi hr).symm
        refine r_aload0 C hl 1 rfl dX2_takeBack_43 ?_
        refine lv_dup C.1 C.2.1 dX2_takeBack_44 rfl ?_
        refine r_get C hw _ (gx_h hO_o) 1 fl_X2_21 rfl dX2_takeBack_45 ?_
        refine lv_iconst (v := 1) C.1 C.2.1 dX2_takeBack_48 (by decide) ?_
        refine lv_isub C.1 C.2.1 dX2_takeBack_49 ?_
        refine r_put C hw _ (gx_h hO_o) 1 fp_X2_21 rfl rfl (Nat.le_of_ble_eq_true rfl) (kW G ah an ads h2 rs n.1 n.2.1 n.2.2.1 n.2.2.2) (sx_h hO_o (hO_p1 e2)) dX2_takeBack_50 (fun H locs hw => ?_)
        refine r_aload0 C hl 1 rfl dX2_takeBack_53 ?_
        refine lv_dup C.1 C.2.1 dX2_takeBack_54 rfl ?_
        refine r_get C hw _ (gx_h hO_o) 2 fl_X2_17 rfl dX2_takeBack_55 ?_
        refine lv_iconst (v := 1) C.1 C.2.1 dX2_takeBack_58 (by decide) ?_
        refine lv_isub C.1 C.2.1 dX2_takeBack_59 ?_
        refine r_put C hw _ (gx_h hO_o) 2 fp_X2_17 rfl rfl (Nat.le_of_ble_eq_true rfl) (kW G ah an ads (pS h2 2 (gS h2 2 - 1)) rs n.1 n.2.1 n.2.2.1 n.2.2.2) (sx_h hO_o (hO_p2 rfl)) dX2_takeBack_60 (fun H locs hw => ?_)
        refine lv_iconst (v := 1) C.1 C.2.1 dX2_takeBack_63 (by decide) ?_
        exact fin_z C hw (by decide) (Option.some.inj hf) (fun o => o.1) (fun o => kW G ah an ads o.2.1 rs o.2.2.1 o.2.2.2.1 o.2.2.2.2.1 o.2.2.2.2.2) rfl rfl dX2_takeBack_64
  refine r_aload0 C hl 0 rfl dX2_takeBack_0 ?_
  refine r_get C hw _ (gx_h hO_o) 1 fl_X2_21 rfl dX2_takeBack_1 ?_
  have e1' := Option.some.inj e1
  refine lv_if_gt (tgt := 13) C.1 C.2.1 dX2_takeBack_4 (by decide) (fun hc => ?_) (fun hc => ?_)
  · rw [if_pos hc] at e1'
    subst e1'
    exact mid _ _ hw
  · rw [if_neg hc] at e1'
    refine r_aload0 C hl 0 rfl dX2_takeBack_7 ?_
    refine lv_bipush (v := 10) C.1 C.2.1 dX2_takeBack_8 (by decide) ?_
    refine r_put C hw _ (gx_h hO_o) 1 fp_X2_21 rfl rfl (Nat.le_of_ble_eq_true rfl) (kW G ah an ads h1 rs t p_ z e_) (sx_h hO_o (hO_p1 (congrArg some e1'))) dX2_takeBack_10 (fun H locs hw => ?_)
    exact mid _ _ hw
section KC
variable {p : Program} {l : Launch} {e : Env} {R : Room} {s : State} {m : MethodId} {args : Array Value} {below : List Frame} {meth : Method} {c : Code} {H : Heap} {locs : List Loc} {cells slots : Nat} {Q : State → Prop}
variable {cc : ByteArray} {nL pc index : Nat} {own : String} {w0 : Cond} {ret : Option FieldType} {ls : Array Slot} {rest : List Value} {G : GG} {A : Nat → Prop}
theorem r_keep {ah an : Nat → Nat} {ads : Nat → Nat → Nat} {h h' t p_ z e_ : Pic} {rs rs' : Nat → Option Q4} {wr : va_W} (C : Cx p s m args meth c cc nL own w0 ret) (hq : NestW s) (hw : Wd G A s H locs (wr ++ kW G ah an ads h rs t p_ z e_)) (hls : ls.size = nL) (lk : Cond.methodLink own index yX2_keep ∈ BT)
    (M : Met l yX2_keep (.code yX2_keep cX2_keep 2 none :: BT) { frames := 4, cells := 19, slots := 1368, locals := 89 } (va_Pc [.ref (ah 99), .ref (an 299)] (PreN G H.size (kW G ah an ads h rs t p_ z e_))) (DonK G (va_A (kW G ah an ads h rs t p_ z e_) H.size) (fun ads => kW G ah an ads h' rs' t p_ z e_)) 19 1368 (va_A (kW G ah an ads h rs t p_ z e_) H.size))
    (hr2 : 4 + 1 ≤ R.frames ∧ 8 + (2 + 11) + 89 ≤ R.locals) (hcs : cells + 19 ≤ R.cells ∧ slots + 1368 ≤ R.slots) (hW : (rest.map fun v => v.category).sum ≤ 8) (hdg : decode cc pc = .ok (.invokevirtual index, 3))
    (kk : ∀ (ads : Nat → Nat → Nat) (H1 : Heap) (locs1 : List Loc), Wd G A s H1 locs1 (wr ++ kW G ah an ads h' rs' t p_ z e_) → W p l e R s m args below meth c H1 locs1 (cells + 19) (slots + 1368) Q (F0 m (pc + 3) ls rest)) : W p l e R s m args below meth c H locs cells slots Q (F0 m pc ls (.ref (an 299) :: .ref (ah 99) :: rest)) := by
  obtain ⟨k1, k2, k3, k4, k5, k6, k7⟩ := kX2_keep
  have hts := C.2.2.2.2.1
  have inb : ∀ {w : Cond}, w ∈ BT → w.before args s = true := fun h => hts _ (List.mem_cons_of_mem _ h)
  obtain ⟨hpre, hfr⟩ := hw.tailpre
  have cw : CallW R s args own yX2_keep.cls index yX2_keep cX2_keep 2 none (.code yX2_keep cX2_keep 2 none :: BT) { frames := 4, cells := 19, slots := 1368, locals := 89 } 19 1368 1 := ⟨callB_of 1 hts (goodBT w0 k1) rfl rfl rfl (inb k4) (inb lk) ⟨k5, k6, k7⟩ hr2, inb k2, inb k3⟩
  have hrc : (wr ++ kW G ah an ads h rs t p_ z e_)[wr.length + 0]? = some (ah 99, .inr (1, [.ref (ah 0), .int (gS h 1), .int (gS h 2)])) := gx_t (gx_h hO_o)
  refine va_callv (va_runV (As := [.ref (an 299)]) (rest := rest) ⟨C.1, C.2.1, C.2.2.1, C.2.2.2.1, hts⟩ M cw ⟨blindN, va_recv hw.1 hw.2.1 rfl hrc, fun U hU hW2 => ⟨rfl, hpre U hU hW2, hq.warm hW2⟩⟩ rfl rfl hls rfl (lv_room hW) hdg hcs) hw.2.2.2.1 (fun q _ h => hfr q h) hfr (fun ads1 t1 H1 locs1 ht hvm hp hB hz1 hk1 hS => ?_)
  exact kk ads1 H1 locs1 (hw.join hk1 hS ht hB)
end KC
