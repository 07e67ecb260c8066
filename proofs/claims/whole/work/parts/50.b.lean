/-! (C) the law's cases -/
abbrev lw0 (i qo : Nat) (ad am : Nat → Nat) (b : Nat) : List (Nat × Value) := [(4, .int (nI i)), (3, .ref qo), (2, .ref (ad 99)), (1, .ref (am 99)), (0, .ref b)]
/-- class, reference and the law's own row, in step -/
def LSW (G : GG) (A : Nat → Prop) (s : State) (H : Heap) (locs : List Loc) (am ad : Nat → Nat) (qo : Nat) : Prop := ∃ (as_ : Nat → Nat) (at_ : Nat → Nat) (ar : Nat → Nat) (ab : Nat → Nat) (ac : Nat → Nat) (ah : Nat → Nat) (an : Nat → Nat) (ath : Nat → Nat) (ads : Nat → Nat → Nat) (m_am : Pic) (r_ar : Pic) (b_am : Pic) (s_as_ : Pic) (s_at_ : Pic) (c_ac : Pic) (h_ah : Pic) (t_an : Pic) (p_an : Pic) (p_ath : Pic) (z_an : Pic) (z_ath : Pic) (e_an : Pic) (rs : Nat → Option Q4) (d_ad : Pic) (dw : Int64) (ov : Nat → Int64), Wd G A s H locs (mO G am as_ ar ac an ath ah m_am ++ (rO G ar ab at_ r_ar ++ (bO G am b_am ++ (sO G as_ s_as_ ++ (sO G at_ s_at_ ++ (cO G ac c_ac ++ (hO G ah (rgA ads rs) h_ah ++ (tO G an t_an ++ (pO G an p_an ++ (pO G ath p_ath ++ (zO G an z_an ++ (zO G ath z_ath ++ (eO G an e_an ++ (kO G ads rs ++ (dO G ad d_ad dw ++ ([(qo, .inl (G.2.2.2.2, 1, .inr (.inl ov)))] ++ [])))))))))))))))) ∧ RLX m_am b_am s_as_ c_ac t_an p_an z_an e_an h_ah rs d_ad
def bk (bs : List va_W) (n : Nat) : va_W := (bs[n]?).getD []
theorem Wd.pm2 {G : GG} {A : Nat → Prop} {s : State} {H : Heap} {locs : List Loc} (bs : List va_W) (is js1 js2 : List Nat) {ws wr wc : va_W} (hp : is.Perm (js1 ++ js2)) (e1 : (is.map (bk bs)).flatten = ws) (e2 : (js1.map (bk bs)).flatten = wr) (e3 : (js2.map (bk bs)).flatten = wc) (hw : Wd G A s H locs ws) : Wd G A s H locs (wr ++ wc) := by
  subst e1 e2 e3
  have h := hw.prm (pm_fl (bk bs) hp)
  rw [List.map_append, List.flatten_append] at h
  exact h
theorem Wd.pm3 {G : GG} {A : Nat → Prop} {s : State} {H : Heap} {locs : List Loc} (bs : List va_W) (is js1 js2 : List Nat) {ws wr wc : va_W} (hp : (js1 ++ js2).Perm is) (e1 : (is.map (bk bs)).flatten = ws) (e2 : (js1.map (bk bs)).flatten = wr) (e3 : (js2.map (bk bs)).flatten = wc) (hw : Wd G A s H locs (wr ++ wc)) : Wd G A s H locs ws := by
  subst e1 e2 e3
  rw [← List.flatten_append, ← List.map_append] at hw
  exact hw.prm (pm_fl (bk bs) hp)
def bz (x : Int32) : Int32 := if x = 0 then 0 else 1
section LB
variable {p : Program} {l : Launch} {e : Env} {s : State} {m : MethodId} {below : List Frame} {meth : Method} {c : Code} {H : Heap} {locs : List Loc} {cells slots : Nat} {Q : State → Prop} {w0 : Cond} {ls : Array Slot} {G : GG} {A : Nat → Prop} {K : SK} {b L i : Nat} {xs : Nat → Int32} {am ad : Nat → Nat} {qo : Nat}
theorem r_bool {R : Room} {args : Array Value} {cc : ByteArray} {pc : Nat} {x : Int32} {rest : List Value} (hx : p.tables.exec = Jvm.exec) (hb : c.code = cc) (d1 : decode cc pc = .ok (.ifCond .eq 7, 3)) (d2 : decode cc (pc + 3) = .ok (.iconst 1, 1)) (d3 : decode cc (pc + 4) = .ok (.goto 4, 3)) (d4 : decode cc (pc + 7) = .ok (.iconst 0, 1)) (kk : W p l e R s m args below meth c H locs cells slots Q (F0 m (pc + 8) ls (.int (bz x) :: rest))) : W p l e R s m args below meth c H locs cells slots Q (F0 m pc ls (.int x :: rest)) := by
  refine lv_if_eq (tgt := pc + 7) hx hb d1 (by omega) (fun hc => ?_) (fun hc => ?_)
  · refine lv_iconst (v := 0) hx hb d4 (by decide) ?_
    unfold bz at kk
    rw [if_pos hc] at kk
    exact kk
  · refine lv_iconst (v := 1) hx hb d2 (by decide) ?_
    refine lv_goto (tgt := pc + 8) hx hb d3 (by omega) ?_
    unfold bz at kk
    rw [if_neg hc] at kk
    exact kk
end LB
