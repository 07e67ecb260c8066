/-! (C) the law: onDisk -/
section LD
variable {p : Program} {l : Launch} {e : Env} {s : State} {m : MethodId} {below : List Frame} {meth : Method} {c : Code} {H : Heap} {locs : List Loc} {cells slots : Nat} {Q : State → Prop} {w0 : Cond} {ls : Array Slot} {G : GG} {A : Nat → Prop} {K : SK} {b L i : Nat} {xs : Nat → Int32} {am ad : Nat → Nat} {qo : Nat}
set_option maxHeartbeats 800000 in
set_option maxRecDepth 100000 in
theorem k_onDisk (hl0 : l.stackTraces = false) {sa : Nat} (hth : ThrW sa A s) (C : Cx p s m #[.ref b] meth c cL_law 7 RL w0 (some .boolean)) (I : LK A K s b L xs) (hi : i + 6 ≤ L) (hl : lv_has ls 7 (lw0 i qo ad am b)) (hs : LSW G A s H locs am ad qo) (hcs : cells + 100 ≤ 601024 ∧ slots + 4000 ≤ 7293034) (kk : ∀ (H : Heap) (locs : List Loc) (ls : Array Slot), lv_has ls 7 (lw0 i qo ad am b) → LSW G A s H locs am ad qo → W p l e room_1 s m #[.ref b] below meth c H locs (cells + 100) (slots + 4000) Q (F0 m 1749 ls [])) : W p l e room_1 s m #[.ref b] below meth c H locs cells slots Q (F0 m 1655 ls []) := by
  obtain ⟨as_, at_, ar, ab, ac, ah, an, ath, ads, m_am, r_ar, b_am, s_as_, s_at_, c_ac, h_ah, t_an, p_an, p_ath, z_an, z_ath, e_an, rs, d_ad, dw, ov, hw, hR⟩ := hs
  have hl : lv_has ls 7 [(4, .int (nI i)), (3, .ref qo), (2, .ref (ad 99)), (1, .ref (am 99)), (0, .ref b)] := hl
  have hc0 : cells + 1 ≤ room_1.cells ∧ slots + 6 ≤ room_1.slots := ⟨show cells + 1 ≤ 601024 by omega, show slots + 6 ≤ 7293034 by omega⟩
  obtain ⟨v, d1, e9, hR, hdj⟩ := q_onDisk hR (xs (i + 1))
  refine r_aload0 C hl 3 rfl dL_law_1655 ?_
  refine r_arg C hl I hw 4 0 1 rfl rfl (by omega) rfl dL_law_1656 dL_law_1657 dL_law_1659 dL_law_1660 dL_law_1661 ?_
  refine r_aload0 C hl 1 rfl dL_law_1662 ?_
  have hts := C.2.2.2.2.1
  have cut : ∀ u : Nat → Int64, CutX (mO G am as_ ar ac an ath ah m_am ++ (rO G ar ab at_ r_ar ++ (bO G am b_am ++ (sO G as_ s_as_ ++ (sO G at_ s_at_ ++ (cO G ac c_ac ++ (hO G ah (rgA ads rs) h_ah ++ (tO G an t_an ++ (pO G an p_an ++ (pO G ath p_ath ++ (zO G an z_an ++ (zO G ath z_ath ++ (eO G an e_an ++ (kO G ads rs ++ (dO G ad d_ad dw ++ ([(qo, .inl (G.2.2.2.2, 1, .inr (.inl ov)))] ++ [])))))))))))))))) (mO G am as_ ar ac an ath ah m_am ++ (tO G an t_an ++ (pO G an p_an ++ ([(qo, .inl (G.2.2.2.2, 1, .inr (.inl ov)))] ++ [])))) (mO G am as_ ar ac an ath ah m_am ++ (rO G ar ab at_ r_ar ++ (bO G am b_am ++ (sO G as_ s_as_ ++ (sO G at_ s_at_ ++ (cO G ac c_ac ++ (hO G ah (rgA ads rs) h_ah ++ (tO G an t_an ++ (pO G an p_an ++ (pO G ath p_ath ++ (zO G an z_an ++ (zO G ath z_ath ++ (eO G an e_an ++ (kO G ads rs ++ (dO G ad d_ad dw ++ ([(qo, .inl (G.2.2.2.2, 1, .inr (.inl u)))] ++ [])))))))))))))))) (mO G am as_ ar ac an ath ah m_am ++ (tO G an t_an ++ (pO G an p_an ++ ([(qo, .inl (G.2.2.2.2, 1, .inr (.inl u)))] ++ [])))) := fun u => (CutX.take mO_f (CutX.skip (CutX.skip (CutX.skip (CutX.skip (CutX.skip (CutX.skip (CutX.take tO_f (CutX.take pO_f (CutX.skip (CutX.skip (CutX.skip (CutX.skip (CutX.skip (CutX.skip (CutX.take rfl CutX.none))))))))))))))))
  have cw : vx_CSW room_1 s #[.ref b] RL 215 yL_onDisk cL_onDisk 4 (some .int) [(0, 9, 12, 13)] (.codeWith yL_onDisk cL_onDisk 4 (some .int) [(0, 9, 12, 13)] :: BT) { frames := 7, cells := 1, slots := 6, locals := 105 } 1 6 3 := vx_cwSW 3 hts (goodL w0) rfl rfl rfl ⟨by decide, by decide, by decide +kernel⟩ ⟨Nat.le_of_ble_eq_true rfl, Nat.le_of_ble_eq_true rfl⟩
  obtain ⟨jC, jR, j1, j2, j3, j4, j5, j6⟩ := cut ov
  refine va_calli (vx_runSW (As := [.ref (am 99), .int (xs (i + 1)), .ref qo]) (rest := []) ⟨C.1, C.2.1, C.2.2.1, C.2.2.2.1, hts⟩ (c_L_onDisk l hl0 G am as_ ar ac an ath ah qo sa _ m_am t_an p_an ov (xs (i + 1))) cw ⟨blindO, fun U hU hW2 => ⟨rfl, hw.pre jC j1 j2 U hU hW2, hth.pass hw.2.2.2.1 (hw.fr jC j2) hU hW2⟩⟩ rfl rfl hl.1 rfl (lv_room (Nat.le_of_ble_eq_true rfl)) dL_law_1663 hc0) hw.2.2.2.1 (fun q _ h => hw.fr jC j2 q h) (hw.fr jC j2) (fun r1 u t H1 locs1 ht hvm hp hB hz1 hk1 hS => ?_)
  obtain ⟨iC, iR, i1, i2, i3, i4, i5, i6⟩ := cut u
  replace hw : Wd G A s H1 locs1 (mO G am as_ ar ac an ath ah m_am ++ (rO G ar ab at_ r_ar ++ (bO G am b_am ++ (sO G as_ s_as_ ++ (sO G at_ s_at_ ++ (cO G ac c_ac ++ (hO G ah (rgA ads rs) h_ah ++ (tO G an t_an ++ (pO G an p_an ++ (pO G ath p_ath ++ (zO G an z_an ++ (zO G ath z_ath ++ (eO G an e_an ++ (kO G ads rs ++ (dO G ad d_ad dw ++ ([(qo, .inl (G.2.2.2.2, 1, .inr (.inl u)))] ++ [])))))))))))))))) := hw.after iC iR i2 i3 i4 i5 i6 hk1 hS ht hB
  have hp : odR (p_an.2 4) (xs (i + 1)) r1 u := hp
  refine r_istore C hl [(5, .int r1), (4, .int (nI i)), (3, .ref qo), (2, .ref (ad 99)), (1, .ref (am 99)), (0, .ref b)] (by decide) rfl dL_law_1666 (fun ls hl => ?_)
  refine r_aload0 C hl 3 rfl dL_law_1668 ?_
  refine r_arg C hl I hw 5 1 1 rfl rfl (by omega) rfl dL_law_1669 dL_law_1670 dL_law_1672 dL_law_1673 dL_law_1674 ?_
  refine r_callVi (r := v) (ws' := (mO G am as_ ar ac an ath ah m_am ++ (rO G ar ab at_ r_ar ++ (bO G am b_am ++ (sO G as_ s_as_ ++ (sO G at_ s_at_ ++ (cO G ac c_ac ++ (hO G ah (rgA ads rs) h_ah ++ (tO G an t_an ++ (pO G an p_an ++ (pO G ath p_ath ++ (zO G an z_an ++ (zO G ath z_ath ++ (eO G an e_an ++ (kO G ads rs ++ (dO G ad d1 dw ++ ([(qo, .inl (G.2.2.2.2, 1, .inr (.inl u)))] ++ []))))))))))))))))) (As := [.int (xs (i + 1))]) (rest := []) C hw hl.1 kX9_onDisk ml_L_220 (c_X9_onDisk l G ad _ d_ad dw (xs (i + 1)) _ e9) (CutX.skip (CutX.skip (CutX.skip (CutX.skip (CutX.skip (CutX.skip (CutX.skip (CutX.skip (CutX.skip (CutX.skip (CutX.skip (CutX.skip (CutX.skip (CutX.skip (CutX.take dO_f CutX.none))))))))))))))) _ ((gx_t (gx_t (gx_t (gx_t (gx_t (gx_t (gx_t (gx_t (gx_t (gx_t (gx_t (gx_t (gx_t (gx_t (gx_h dO_o)))))))))))))))) rfl ⟨rfl, rfl⟩ ⟨Nat.le_of_ble_eq_true rfl, Nat.le_of_ble_eq_true rfl⟩ rfl hc0 rfl (Nat.le_of_ble_eq_true rfl) dL_law_1675 (fun H locs hw => ?_)
  refine r_istore C hl [(6, .int v), (5, .int r1), (4, .int (nI i)), (3, .ref qo), (2, .ref (ad 99)), (1, .ref (am 99)), (0, .ref b)] (by decide) rfl dL_law_1678 (fun ls hl => ?_)
  refine r_aload0 C hl 4 rfl dL_law_1680 ?_
  refine r_callVi (r := gS d1 0) (ws' := (mO G am as_ ar ac an ath ah m_am ++ (rO G ar ab at_ r_ar ++ (bO G am b_am ++ (sO G as_ s_as_ ++ (sO G at_ s_at_ ++ (cO G ac c_ac ++ (hO G ah (rgA ads rs) h_ah ++ (tO G an t_an ++ (pO G an p_an ++ (pO G ath p_ath ++ (zO G an z_an ++ (zO G ath z_ath ++ (eO G an e_an ++ (kO G ads rs ++ (dO G ad d1 dw ++ ([(qo, .inl (G.2.2.2.2, 1, .inr (.inl u)))] ++ []))))))))))))))))) (As := []) (rest := []) C hw hl.1 kX9_thrown ml_L_221 (c_X9_thrown l G ad _ d1 dw _ rfl) (CutX.skip (CutX.skip (CutX.skip (CutX.skip (CutX.skip (CutX.skip (CutX.skip (CutX.skip (CutX.skip (CutX.skip (CutX.skip (CutX.skip (CutX.skip (CutX.skip (CutX.take dO_f CutX.none))))))))))))))) _ ((gx_t (gx_t (gx_t (gx_t (gx_t (gx_t (gx_t (gx_t (gx_t (gx_t (gx_t (gx_t (gx_t (gx_t (gx_h dO_o)))))))))))))))) rfl ⟨rfl, rfl⟩ ⟨Nat.le_of_ble_eq_true rfl, Nat.le_of_ble_eq_true rfl⟩ rfl hc0 rfl (Nat.le_of_ble_eq_true rfl) dL_law_1681 (fun H locs hw => ?_)
  refine r_iload C hl 1 rfl dL_law_1684 ?_
  have heq : gS d1 0 = r1 := by
    rcases hp with ⟨q, h1, h2, h3⟩ | ⟨h1, h2⟩
    · rcases hdj with ⟨q2, g1, g2, g3⟩ | ⟨g1, g2⟩
      · rw [g3, h2]
      · rw [h1] at g1; cases g1
    · rcases hdj with ⟨q2, g1, g2, g3⟩ | ⟨g1, g2⟩
      · rw [h1] at g1; cases g1
      · rw [g2, h2]
  refine lv_icmp_eq (tgt := 1691) C.1 C.2.1 dL_law_1686 (by decide) (fun _ => ?_) (fun hc => absurd heq hc)
  refine r_iload C hl 1 rfl dL_law_1691 ?_
  have fin : W p l e room_1 s m #[.ref b] below meth c H locs (cells + 1) (slots + 6) Q (F0 m 1708 ls []) := by
    refine lv_goto (tgt := 1749) C.1 C.2.1 dL_law_1708 (by decide) ?_
    refine W.widen (k := cells + 100) (n := slots + 4000) (by omega) (by omega) ?_
    exact kk _ _ _ (lv_sub hl [2, 3, 4, 5, 6] rfl) ⟨_, _, _, _, _, _, _, _, _, _, _, _, _, _, _, _, _, _, _, _, _, _, _, _, _, _, hw, hR⟩
  refine lv_if_ne (tgt := 1708) C.1 C.2.1 dL_law_1693 (by decide) (fun _ => fin) (fun hc => ?_)
  refine r_aload0 C hl 3 rfl dL_law_1696 ?_
  refine lv_iconst (v := 0) C.1 C.2.1 dL_law_1697 (by decide) ?_
  refine va_lald C.1 C.2.1 hw.1 hw.2.1 _ 3 ((gx_t (gx_t (gx_t (gx_t (gx_t (gx_t (gx_t (gx_t (gx_t (gx_t (gx_t (gx_t (gx_t (gx_t (gx_t (gx_h g1))))))))))))))))) rfl in01 dL_law_1698 ?_
  refine r_iload C hl 0 rfl dL_law_1699 ?_
  refine lv_i2l (v := v.toInt64) C.1 C.2.1 dL_law_1701 rfl ?_
  refine W.lcmp C.1 C.2.1 dL_law_1702 ?_
  have hz : lg_cmp (u (Int32.toNatClampNeg 0)) v.toInt64 = 0 := by
    have hu : u (Int32.toNatClampNeg 0) = v.toInt64 := by
      show u 0 = v.toInt64
      rcases hp with ⟨q, h1, h2, h3⟩ | ⟨h1, h2⟩
      · rcases hdj with ⟨q2, g1, g2, g3⟩ | ⟨g1, g2⟩
        · rw [h1] at g1
          cases g1
          rw [h3, g2]
        · rw [h1] at g1; cases g1
      · rw [h2] at hc
        exact absurd hc (by decide)
    rw [hu]
    simp [lg_cmp]
  rw [hz]
  exact lv_if_eq (tgt := 1708) C.1 C.2.1 dL_law_1703 (by decide) (fun _ => fin) (fun hc => absurd rfl hc)
end LD
