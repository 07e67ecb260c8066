/-! THE CLAIM OUT OF ONE WALK OF THE LAW'S BODY. Your part is whole_start (and what it stands on); all else here is the same for every law, but numbers. -/
def R_law : String := "SqueezedSwapLaw"
def lw_P (b : Addr) (xs : List Int32) (args : Array Value) (s : State) : Prop := args = #[.ref b] ∧ s.IntsAt b xs ∧ xs.length ≤ 3072 ∧ (Jvm.Cond.and given_1 narrow_1).before args s = true
def lw_Q (_ : Array Value) (s : State) (o : Outcome) (t : State) : Prop := o = .returned (some (.int 1)) ∧ Framed s o t [] 601024 7293034
def lw_Z (below : List Frame) (a : Array Value) (s : State) : State → Prop := fun t => ∃ o, t.status = .running ∧ Ended t below o ∧ lw_Q a s o t
/-- the law's own end, with 1 on the stack, nothing written that was there before, its room as the claim has it -/
theorem lw_ret {p : Program} {l : Launch} {e : Env} {s : State} {m : MethodId} {below : List Frame} {meth : Method} {c : Code} {b : Nat} (hx : p.tables.exec = Jvm.exec) (hb : c.code = code) (hr : meth.sig.returnType = ret) (hlocks : meth.locks = false) {pc : Nat} {H : Heap} {ls : Array Slot} (hdg : decode code pc = .ok (.ireturn, 1)) : W p l e room_1 s m #[Value.ref b] below meth c H [] 601024 7293034 (lw_Z below #[Value.ref b] s) (F0 m pc ls [.int 1]) := by
  intro T hT X
  obtain ⟨fs, hret, hrun, hended, hW, hframe⟩ := X.leave (v := some (.int 1)) (hlocks := hlocks) (fun h => by rw [hr] at h; cases h)
  have hmeth' : T.vm.method? m = some meth := X.method'
  refine ⟨T.setFrames fs, ?_, .returned (some (.int 1)), hrun, hended, rfl, ⟨_, rfl⟩, hW, hframe⟩
  jvm_step X.here [X.here.top, hx, hb, hdg, hmeth', hr, ret, narrow_b1]
  (try refine ⟨rfl, ?_⟩); (try refine ⟨rfl, ?_⟩)
  first | (intro acts; rw [hret _ acts rfl rfl rfl]) | rw [hret _ _ rfl rfl rfl]
  exact Steps.refl _
/-- what holds at the law's entry: the machine, the code, the tables' words (any of lw_tbl by 'hts w (by decide +kernel)'), the script of L ints xs at the cell b, what the Statement gives of the start (any of its parts by flat_of_before) -/
def lw_At (p : Program) (s : State) (m : MethodId) (meth : Method) (c : Code) (b L : Nat) (xs : Nat → Int32) : Prop :=
  p.tables.exec = Jvm.exec ∧ c.code = code ∧ meth.sig.returnType = ret ∧ c.maxLocals = 7 ∧ s.vm.findClass R_law = some m.cls ∧ (∀ w ∈ lw_tbl, w.before #[Value.ref b] s = true) ∧ va_X b L xs s s.heap ∧ b < s.heap.size ∧ meth.locks = false ∧ (Jvm.Cond.and given_1 narrow_1).before #[Value.ref b] s = true
theorem and63 (y : Int32) : ∃ k, k < 64 ∧ y &&& 63 = nI k := by
  refine ⟨y.toBitVec.toNat % 64, Nat.mod_lt _ (by decide), ?_⟩
  apply Int32.toBitVec_inj.mp
  rw [Int32.toBitVec_and]
  apply BitVec.eq_of_toNat_eq
  rw [BitVec.toNat_and]
  show y.toBitVec.toNat &&& 63 = (BitVec.ofNat 32 (y.toBitVec.toNat % 64)).toNat
  rw [BitVec.toNat_ofNat, show (63 : Nat) = 2 ^ 6 - 1 from rfl, Nat.and_two_pow_sub_one_eq_mod]
  show y.toBitVec.toNat % 64 = y.toBitVec.toNat % 64 % 2 ^ 32
  exact (Nat.mod_eq_of_lt (Nat.lt_of_lt_of_le (Nat.mod_lt _ (by decide)) (by decide))).symm
theorem l6_sub {L : Nat} (h : 6 ≤ L) : nI L - 6 = nI (L - 6) := by
  have h1 := nI_add (L - 6) 6
  rw [Nat.sub_add_cancel h] at h1
  rw [← h1]
  exact Int32.add_sub_cancel _ _
theorem l6_lt {L i : Nat} (hL : L ≤ 3072) (hi : i ≤ 4000) (h : nI L - 6 < nI i) : ¬ i + 6 ≤ L := by
  intro h6
  rw [l6_sub (by omega)] at h
  exact nI_nlt (a := L - 6) (b := i) (by omega) (by omega) h
theorem l6_nlt {L i : Nat} (hL : L ≤ 3072) (hi : i ≤ 4000) (h : ¬ nI L - 6 < nI i) : i + 6 ≤ L := by
  rcases Nat.lt_or_ge L 6 with q | q
  · exfalso
    apply h
    have h0 : ¬ nI i < 0 := nI_pos (by omega)
    have hn : nI L - 6 < 0 := by
      rcases (show L = 0 ∨ L = 1 ∨ L = 2 ∨ L = 3 ∨ L = 4 ∨ L = 5 by omega) with rfl | rfl | rfl | rfl | rfl | rfl <;> decide
    exact Int32.lt_of_lt_of_le hn (Int32.not_lt.mp h0)
  · rw [l6_sub q] at h
    rcases Nat.lt_or_ge (L - 6) i with q2 | q2
    · exact absurd (nI_lt q2 (by omega)) h
    · omega
section LL
variable {p : Program} {l : Launch} {e : Env} {s : State} {m : MethodId} {below : List Frame} {meth : Method} {c : Code} {H : Heap} {locs : List Loc} {cells slots : Nat} {w0 : Cond} {ls : Array Slot} {G : GG} {A : Nat → Prop} {K : SK} {b L i : Nat} {xs : Nat → Int32} {am ad : Nat → Nat} {qo : Nat}
set_option maxHeartbeats 4000000 in
set_option maxRecDepth 100000 in
theorem law_case {Q : State → Prop} (hl0 : l.stackTraces = false) {sa : Nat} (hth : ThrW sa A s) {k : Nat} (hk : k < 50) (C : Cx p s m #[.ref b] meth c cL_law 7 RL w0 (some .boolean)) (I : LK A K s b L xs) (hi : i + 6 ≤ L) (hl : lv_has ls 7 (lw0 i qo ad am b)) (hs : LSW G A s H locs am ad qo) (hcs : cells + 100 ≤ 601024 ∧ slots + 4000 ≤ 7293034) (kk : ∀ (H : Heap) (locs : List Loc) (ls : Array Slot), lv_has ls 7 (lw0 i qo ad am b) → LSW G A s H locs am ad qo → W p l e room_1 s m #[.ref b] below meth c H locs (cells + 100) (slots + 4000) Q (F0 m 1749 ls [])) : W p l e room_1 s m #[.ref b] below meth c H locs cells slots Q (F0 m 40 ls [.int (nI k)]) := by
  rcases (show k = 0 ∨ k = 1 ∨ k = 2 ∨ k = 3 ∨ k = 4 ∨ k = 5 ∨ k = 6 ∨ k = 7 ∨ k = 8 ∨ k = 9 ∨ k = 10 ∨ k = 11 ∨ k = 12 ∨ k = 13 ∨ k = 14 ∨ k = 15 ∨ k = 16 ∨ k = 17 ∨ k = 18 ∨ k = 19 ∨ k = 20 ∨ k = 21 ∨ k = 22 ∨ k = 23 ∨ k = 24 ∨ k = 25 ∨ k = 26 ∨ k = 27 ∨ k = 28 ∨ k = 29 ∨ k = 30 ∨ k = 31 ∨ k = 32 ∨ k = 33 ∨ k = 34 ∨ k = 35 ∨ k = 36 ∨ k = 37 ∨ k = 38 ∨ k = 39 ∨ k = 40 ∨ k = 41 ∨ k = 42 ∨ k = 43 ∨ k = 44 ∨ k = 45 ∨ k = 46 ∨ k = 47 ∨ k = 48 ∨ k = 49 by omega) with rfl | rfl | rfl | rfl | rfl | rfl | rfl | rfl | rfl | rfl | rfl | rfl | rfl | rfl | rfl | rfl | rfl | rfl | rfl | rfl | rfl | rfl | rfl | rfl | rfl | rfl | rfl | rfl | rfl | rfl | rfl | rfl | rfl | rfl | rfl | rfl | rfl | rfl | rfl | rfl | rfl | rfl | rfl | rfl | rfl | rfl | rfl | rfl | rfl | rfl
  · exact lv_tableIn (off := 216) (tgt := 256) C.1 C.2.1 dL_law_40 (by decide) (by decide) rfl (by decide) (k_feed C I hi hl hs hcs kk)
  · exact lv_tableIn (off := 289) (tgt := 329) C.1 C.2.1 dL_law_40 (by decide) (by decide) rfl (by decide) (k_swap C I hi hl hs hcs kk)
  · exact lv_tableIn (off := 314) (tgt := 354) C.1 C.2.1 dL_law_40 (by decide) (by decide) rfl (by decide) (k_fault C I hi hl hs hcs kk)
  · exact lv_tableIn (off := 327) (tgt := 367) C.1 C.2.1 dL_law_40 (by decide) (by decide) rfl (by decide) (k_where C I hi hl hs hcs kk)
  · exact lv_tableIn (off := 340) (tgt := 380) C.1 C.2.1 dL_law_40 (by decide) (by decide) rfl (by decide) (k_about C I hi hl hs hcs kk)
  · exact lv_tableIn (off := 365) (tgt := 405) C.1 C.2.1 dL_law_40 (by decide) (by decide) rfl (by decide) (k_cell C I hi hl hs hcs kk)
  · exact lv_tableIn (off := 402) (tgt := 442) C.1 C.2.1 dL_law_40 (by decide) (by decide) rfl (by decide) (k_squeezed C I hi hl hs hcs kk)
  · exact lv_tableIn (off := 427) (tgt := 467) C.1 C.2.1 dL_law_40 (by decide) (by decide) rfl (by decide) (k_pieces C I hi hl hs hcs kk)
  · exact lv_tableIn (off := 452) (tgt := 492) C.1 C.2.1 dL_law_40 (by decide) (by decide) rfl (by decide) (k_piece C I hi hl hs hcs kk)
  · exact lv_tableIn (off := 501) (tgt := 541) C.1 C.2.1 dL_law_40 (by decide) (by decide) rfl (by decide) (k_fewest C I hi hl hs hcs kk)
  · exact lv_tableIn (off := 526) (tgt := 566) C.1 C.2.1 dL_law_40 (by decide) (by decide) rfl (by decide) (k_rest C I hi hl hs hcs kk)
  · exact lv_tableIn (off := 563) (tgt := 603) C.1 C.2.1 dL_law_40 (by decide) (by decide) rfl (by decide) (k_ranked C I hi hl hs hcs kk)
  · exact lv_tableIn (off := 588) (tgt := 628) C.1 C.2.1 dL_law_40 (by decide) (by decide) rfl (by decide) (k_sort C I hi hl hs hcs kk)
  · exact lv_tableIn (off := 613) (tgt := 653) C.1 C.2.1 dL_law_40 (by decide) (by decide) rfl (by decide) (k_home C I hi hl hs hcs kk)
  · exact lv_tableIn (off := 638) (tgt := 678) C.1 C.2.1 dL_law_40 (by decide) (by decide) rfl (by decide) (k_sizes C I hi hl hs hcs kk)
  · exact lv_tableIn (off := 675) (tgt := 715) C.1 C.2.1 dL_law_40 (by decide) (by decide) rfl (by decide) (k_gain C I hi hl hs hcs kk)
  · exact lv_tableIn (off := 688) (tgt := 728) C.1 C.2.1 dL_law_40 (by decide) (by decide) rfl (by decide) (k_next C I hi hl hs hcs kk)
  · exact lv_tableIn (off := 713) (tgt := 753) C.1 C.2.1 dL_law_40 (by decide) (by decide) rfl (by decide) (k_coldest C I hi hl hs hcs kk)
  · exact lv_tableIn (off := 738) (tgt := 778) C.1 C.2.1 dL_law_40 (by decide) (by decide) rfl (by decide) (k_fittest C I hi hl hs hcs kk)
  · exact lv_tableIn (off := 751) (tgt := 791) C.1 C.2.1 dL_law_40 (by decide) (by decide) rfl (by decide) (k_zone C I hi hl hs hcs kk)
  · exact lv_tableIn (off := 788) (tgt := 828) C.1 C.2.1 dL_law_40 (by decide) (by decide) rfl (by decide) (k_slot C I hi hl hs hcs kk)
  · exact lv_tableIn (off := 825) (tgt := 865) C.1 C.2.1 dL_law_40 (by decide) (by decide) rfl (by decide) (k_page C I hi hl hs hcs kk)
  · exact lv_tableIn (off := 850) (tgt := 890) C.1 C.2.1 dL_law_40 (by decide) (by decide) rfl (by decide) (k_pooled C I hi hl hs hcs kk)
  · exact lv_tableIn (off := 887) (tgt := 927) C.1 C.2.1 dL_law_40 (by decide) (by decide) rfl (by decide) (k_read C I hi hl hs hcs kk)
  · exact lv_tableIn (off := 924) (tgt := 964) C.1 C.2.1 dL_law_40 (by decide) (by decide) rfl (by decide) (k_aged C I hi hl hs hcs kk)
  · exact lv_tableIn (off := 949) (tgt := 989) C.1 C.2.1 dL_law_40 (by decide) (by decide) rfl (by decide) (k_total C I hi hl hs hcs kk)
  · exact lv_tableIn (off := 974) (tgt := 1014) C.1 C.2.1 dL_law_40 (by decide) (by decide) rfl (by decide) (k_same C I hi hl hs hcs kk)
  · exact lv_tableIn (off := 1011) (tgt := 1051) C.1 C.2.1 dL_law_40 (by decide) (by decide) rfl (by decide) (k_waste C I hi hl hs hcs kk)
  · exact lv_tableIn (off := 1024) (tgt := 1064) C.1 C.2.1 dL_law_40 (by decide) (by decide) rfl (by decide) (k_would C I hi hl hs hcs kk)
  · exact lv_tableIn (off := 1077) (tgt := 1117) C.1 C.2.1 dL_law_40 (by decide) (by decide) rfl (by decide) (k_freeing C I hi hl hs hcs kk)
  · exact lv_tableIn (off := 1090) (tgt := 1130) C.1 C.2.1 dL_law_40 (by decide) (by decide) rfl (by decide) (k_holds C I hi hl hs hcs kk)
  · exact lv_tableIn (off := 1131) (tgt := 1171) C.1 C.2.1 dL_law_40 (by decide) (by decide) rfl (by decide) (k_pushes C I hi hl hs hcs kk)
  · exact lv_tableIn (off := 1168) (tgt := 1208) C.1 C.2.1 dL_law_40 (by decide) (by decide) rfl (by decide) (k_pushed C I hi hl hs hcs kk)
  · exact lv_tableIn (off := 1217) (tgt := 1257) C.1 C.2.1 dL_law_40 (by decide) (by decide) rfl (by decide) (k_foretold C I hi hl hs hcs kk)
  · exact lv_tableIn (off := 1266) (tgt := 1306) C.1 C.2.1 dL_law_40 (by decide) (by decide) rfl (by decide) (k_enough C I hi hl hs hcs kk)
  · exact lv_tableIn (off := 1279) (tgt := 1319) C.1 C.2.1 dL_law_40 (by decide) (by decide) rfl (by decide) (k_op C I hi hl hs hcs kk)
  · exact lv_tableIn (off := 1316) (tgt := 1356) C.1 C.2.1 dL_law_40 (by decide) (by decide) rfl (by decide) (k_store C I hi hl hs hcs kk)
  · exact lv_tableIn (off := 1353) (tgt := 1393) C.1 C.2.1 dL_law_40 (by decide) (by decide) rfl (by decide) (k_load C I hi hl hs hcs kk)
  · exact lv_tableIn (off := 1378) (tgt := 1418) C.1 C.2.1 dL_law_40 (by decide) (by decide) rfl (by decide) (k_drop C I hi hl hs hcs kk)
  · exact lv_tableIn (off := 1403) (tgt := 1443) C.1 C.2.1 dL_law_40 (by decide) (by decide) rfl (by decide) (k_hold C I hi hl hs hcs kk)
  · exact lv_tableIn (off := 1428) (tgt := 1468) C.1 C.2.1 dL_law_40 (by decide) (by decide) rfl (by decide) (k_release C I hi hl hs hcs kk)
  · exact lv_tableIn (off := 1453) (tgt := 1493) C.1 C.2.1 dL_law_40 (by decide) (by decide) rfl (by decide) (k_poke C I hi hl hs hcs kk)
  · exact lv_tableIn (off := 1502) (tgt := 1542) C.1 C.2.1 dL_law_40 (by decide) (by decide) rfl (by decide) (k_writeBack C I hi hl hs hcs kk)
  · exact lv_tableIn (off := 1527) (tgt := 1567) C.1 C.2.1 dL_law_40 (by decide) (by decide) rfl (by decide) (k_limit C I hi hl hs hcs kk)
  · exact lv_tableIn (off := 1552) (tgt := 1592) C.1 C.2.1 dL_law_40 (by decide) (by decide) rfl (by decide) (k_compact C I hi hl hs hcs kk)
  · exact lv_tableIn (off := 1565) (tgt := 1605) C.1 C.2.1 dL_law_40 (by decide) (by decide) rfl (by decide) (k_run C I hi hl hs hcs kk)
  · exact lv_tableIn (off := 1602) (tgt := 1642) C.1 C.2.1 dL_law_40 (by decide) (by decide) rfl (by decide) (k_undo C I hi hl hs hcs kk)
  · exact lv_tableIn (off := 1615) (tgt := 1655) C.1 C.2.1 dL_law_40 (by decide) (by decide) rfl (by decide) (k_onDisk hl0 hth C I hi hl hs hcs kk)
  · exact lv_tableIn (off := 1671) (tgt := 1711) C.1 C.2.1 dL_law_40 (by decide) (by decide) rfl (by decide) (k_size C I hi hl hs hcs kk)
  · exact lv_tableIn (off := 1696) (tgt := 1736) C.1 C.2.1 dL_law_40 (by decide) (by decide) rfl (by decide) (k_trouble C I hi hl hs hcs kk)
set_option maxHeartbeats 4000000 in
set_option maxRecDepth 100000 in
theorem law_loop (hl0 : l.stackTraces = false) {sa : Nat} (hth : ThrW sa A s) (hAz : ∀ q, A q → s.heap.size ≤ q) (C : Cx p s m #[.ref b] meth c cL_law 7 RL w0 (some .boolean)) (I : LK A K s b L xs) : ∀ (n i cells slots : Nat) (H : Heap) (locs : List Loc) (ls : Array Slot), L ≤ i + 6 * n + 5 → i ≤ 3078 → cells + 100 * n ≤ 601024 → slots + 4000 * n ≤ 7293034 → lv_has ls 7 (lw0 i qo ad am b) → LSW G A s H locs am ad qo → W p l e room_1 s m #[.ref b] below meth c H locs cells slots (lw_Z below #[.ref b] s) (F0 m 23 ls []) := by
  intro n
  induction n with
  | zero =>
    intro i cells slots H locs ls h1 h2 h3 h4 hl hs
    obtain ⟨as_, at_, ar, ab, ac, ah, an, ath, ads, m_am, r_ar, b_am, s_as_, s_at_, c_ac, h_ah, t_an, p_an, p_ath, z_an, z_ath, e_an, rs, d_ad, dw, ov, hw, hR⟩ := hs
    have hl : lv_has ls 7 [(4, .int (nI i)), (3, .ref qo), (2, .ref (ad 99)), (1, .ref (am 99)), (0, .ref b)] := hl
    refine r_iload C hl 0 rfl dL_law_23 ?_
    refine r_aload0 C hl 4 rfl dL_law_25 ?_
    refine va_slen C.1 C.2.1 I.1 I.2.1 I.2.2.1 hw.2.2.2.1 dL_law_26 ?_
    refine lv_bipush (v := 6) C.1 C.2.1 dL_law_27 (by decide) ?_
    refine lv_isub C.1 C.2.1 dL_law_29 ?_
    refine lv_icmp_gt (tgt := 1755) C.1 C.2.1 dL_law_30 (by decide) (fun hc => ?_) (fun hc => absurd (l6_nlt I.2.2.2.1 (by omega) hc) (by omega))
    refine lv_iconst (v := 1) C.1 C.2.1 dL_law_1755 (by decide) ?_
    refine va_forget (fun q hq => hAz _ (hw.2.2.2.1.2.2 q hq)) ?_
    refine W.widen (k := 601024) (n := 7293034) (by omega) (by omega) ?_
    exact lw_ret C.1 C.2.1 C.2.2.2.2.2.2 C.2.2.2.2.2.1 dL_law_1756
  | succ n ih =>
    intro i cells slots H locs ls h1 h2 h3 h4 hl hs
    have hs0 := hs
    obtain ⟨as_, at_, ar, ab, ac, ah, an, ath, ads, m_am, r_ar, b_am, s_as_, s_at_, c_ac, h_ah, t_an, p_an, p_ath, z_an, z_ath, e_an, rs, d_ad, dw, ov, hw, hR⟩ := hs
    have hl0' := hl
    have hl : lv_has ls 7 [(4, .int (nI i)), (3, .ref qo), (2, .ref (ad 99)), (1, .ref (am 99)), (0, .ref b)] := hl
    refine r_iload C hl 0 rfl dL_law_23 ?_
    refine r_aload0 C hl 4 rfl dL_law_25 ?_
    refine va_slen C.1 C.2.1 I.1 I.2.1 I.2.2.1 hw.2.2.2.1 dL_law_26 ?_
    refine lv_bipush (v := 6) C.1 C.2.1 dL_law_27 (by decide) ?_
    refine lv_isub C.1 C.2.1 dL_law_29 ?_
    refine lv_icmp_gt (tgt := 1755) C.1 C.2.1 dL_law_30 (by decide) (fun hc => ?_) (fun hc => ?_)
    · refine lv_iconst (v := 1) C.1 C.2.1 dL_law_1755 (by decide) ?_
      refine va_forget (fun q hq => hAz _ (hw.2.2.2.1.2.2 q hq)) ?_
      refine W.widen (k := 601024) (n := 7293034) (by omega) (by omega) ?_
      exact lw_ret C.1 C.2.1 C.2.2.2.2.2.2 C.2.2.2.2.2.1 dL_law_1756
    · have hi : i + 6 ≤ L := l6_nlt I.2.2.2.1 (by omega) hc
      have hL := I.2.2.2.1
      refine r_aload0 C hl 4 rfl dL_law_33 ?_
      refine r_iload C hl 0 rfl dL_law_34 ?_
      refine va_sld C.1 C.2.1 I.1 I.2.1 I.2.2.1 hw.2.2.2.1 (vp_in_nI (by omega) (by omega)) dL_law_36 ?_
      refine lv_bipush (v := 63) C.1 C.2.1 dL_law_37 (by decide) ?_
      refine lv_iand C.1 C.2.1 dL_law_39 ?_
      obtain ⟨k, hk, ek⟩ := and63 (xs (nI i).toNatClampNeg)
      rw [ek]
      have kk : ∀ (H : Heap) (locs : List Loc) (ls : Array Slot), lv_has ls 7 (lw0 i qo ad am b) → LSW G A s H locs am ad qo → W p l e room_1 s m #[.ref b] below meth c H locs (cells + 100) (slots + 4000) (lw_Z below #[.ref b] s) (F0 m 1749 ls []) := by
        intro H locs ls hl hs
        refine r_iinc C hl 0 (nI (i + 6)) (lw0 (i + 6) qo ad am b) rfl (show nI i + Int32.ofInt 6 = nI (i + 6) from nI_add i 6) (by decide) rfl dL_law_1749 (fun ls hl => ?_)
        refine lv_goto (tgt := 23) C.1 C.2.1 dL_law_1752 (by decide) ?_
        exact ih (i + 6) (cells + 100) (slots + 4000) H locs ls (by omega) (by omega) (by omega) (by omega) hl hs
      rcases Nat.lt_or_ge k 50 with hk5 | hk5
      · exact law_case hl0 hth hk5 C I hi hl0' hs0 ⟨by omega, by omega⟩ kk
      · refine lv_tableOut (tgt := 1749) C.1 C.2.1 dL_law_40 (Or.inr (by rw [nI_toInt (by omega)]; omega)) (by decide) ?_
        refine W.widen (k := cells + 100) (n := slots + 4000) (by omega) (by omega) ?_
        exact kk _ _ _ hl0' hs0
end LL
