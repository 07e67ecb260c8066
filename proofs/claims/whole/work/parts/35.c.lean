/-! (B) feed (bt, b_.. rows began as kit/laws/BITS.to-paste) -/
def bt (x : Int32) (i : Nat) : Bool := x.toBitVec.getLsbD i
theorem b_ext {x y : Int32} (h : ∀ i, i < 32 → bt x i = bt y i) : x = y := Int32.toBitVec_inj.mp (BitVec.eq_of_getLsbD_eq (fun i hi => h i hi))
theorem b_and (x y : Int32) (i : Nat) : bt (x &&& y) i = (bt x i && bt y i) := by unfold bt; rw [Int32.toBitVec_and, BitVec.getLsbD_and]
theorem b_big {x : Int32} {i : Nat} (h : 32 ≤ i) : bt x i = false := BitVec.getLsbD_of_ge _ _ h
theorem b_255 (i : Nat) : bt 255 i = decide (i < 8) := by
  rcases Nat.lt_or_ge i 32 with h | h
  · exact (by decide +kernel : ∀ i, i < 32 → bt 255 i = decide (i < 8)) i h
  · rw [b_big h, decide_eq_false (by omega)]
theorem s_l : ∀ n, n < 32 → ((nI n &&& 31).toBitVec.smod 32).toNat = n := by decide +kernel
theorem s_u : ∀ n, n < 32 → (((nI n).toUInt32 &&& Int32.toUInt32 31).toBitVec % 32).toNat = n := by decide +kernel
theorem b_ushr (n : Nat) (hn : n < 32) (x : Int32) (i : Nat) : bt ((x.toUInt32 >>> ((nI n).toUInt32 &&& Int32.toUInt32 31)).toInt32) i = bt x (n + i) := by
  show (x.toUInt32 >>> ((nI n).toUInt32 &&& Int32.toUInt32 31)).toBitVec.getLsbD i = x.toUInt32.toBitVec.getLsbD (n + i)
  rw [UInt32.toBitVec_shiftRight]
  show (x.toUInt32.toBitVec >>> (((nI n).toUInt32 &&& Int32.toUInt32 31).toBitVec % 32).toNat).getLsbD i = _
  rw [s_u n hn, BitVec.getLsbD_ushiftRight]
theorem b_sshr (n : Nat) (hn : n < 32) (x : Int32) {i : Nat} (hi : i < 32) : bt (x >>> (nI n &&& 31)) i = if n + i < 32 then bt x (n + i) else bt x 31 := by
  unfold bt
  rw [Int32.toBitVec_shiftRight]
  show (x.toBitVec.sshiftRight ((nI n &&& 31).toBitVec.smod 32).toNat).getLsbD i = _
  rw [s_l n hn, BitVec.getLsbD_sshiftRight, BitVec.msb_eq_getLsbD_last]
  simp [hi]
theorem nx_and (a b : Nat) : nI a &&& nI b = nI (a &&& b) := by
  apply Int32.toBitVec_inj.1
  show BitVec.ofNat 32 a &&& BitVec.ofNat 32 b = BitVec.ofNat 32 (a &&& b)
  apply BitVec.eq_of_getLsbD_eq
  intro i hi
  simp [hi]
theorem bp_b (x : Int32) : x.toInt8.toInt32 &&& 255 = x &&& 255 := by
  apply Int32.toBitVec_inj.mp
  rw [Int32.toBitVec_and, Int32.toBitVec_and, Int8.toBitVec_toInt32, Int32.toBitVec_toInt8]
  apply BitVec.eq_of_getLsbD_eq
  intro i hi
  rw [BitVec.getLsbD_and, BitVec.getLsbD_and]
  have hm : ∀ i < 32, 8 ≤ i → (255 : Int32).toBitVec.getLsbD i = false := by decide
  rcases Nat.lt_or_ge i 8 with z | z
  · rw [BitVec.getLsbD_signExtend, BitVec.getLsbD_signExtend, if_pos z, if_pos hi]
    simp only [z, hi, decide_true, Bool.true_and]
  · rw [hm i hi z]; simp
/-- the i-th byte of a number, as both put it -/
def byC (x : Int32) (n : Nat) : Int32 := ((Int32.toUInt32 x >>> (Int32.toUInt32 (nI n) &&& Int32.toUInt32 31)).toInt32) &&& 255
def byD (x : Int32) (n : Nat) : Int32 := vp_nar .byte ((Int32.toInt8 (x >>> (nI n &&& 31))).toInt32)
theorem by_ex (x : Int32) (n : Nat) (hn : n ≤ 24) : ∃ v, v < 256 ∧ byC x n = nI v ∧ byD x n &&& 255 = nI v := by
  have e : byD x n &&& 255 = byC x n := by
    unfold byD byC
    rw [pk_vb, bp_b]
    apply b_ext
    intro i hi
    rw [b_and, b_and, b_255, b_sshr n (by omega) x hi, b_ushr n (by omega) x i]
    by_cases g : i < 8
    · rw [if_pos (by omega)]
    · rw [decide_eq_false g, Bool.and_false, Bool.and_false]
  obtain ⟨k, _, hk⟩ := i32_n ((Int32.toUInt32 x >>> (Int32.toUInt32 (nI n) &&& Int32.toUInt32 31)).toInt32)
  have e2 : byC x n = nI (k &&& 255) := by
    unfold byC
    rw [hk, show (255 : Int32) = nI 255 from rfl, nx_and]
  refine ⟨k &&& 255, Nat.lt_of_le_of_lt Nat.and_le_right (by decide), e2, e.trans e2⟩
def agN (a b c d e : Int32) (i : Nat) : Int32 := if i < 4 then a else if i < 8 then b else if i < 12 then c else if i < 16 then d else e
section FE
variable {m b sc c t p z e h d : Pic} {rs : Nat → Option Q4}
theorem x_fs {x : Int32} {n s q : Nat} {sh sh' : Int32} (hs : sh = nI s) (hs2 : sh + (-8) = sh') (h0 : ¬ sh < 0) (h1 : gS m 1 = nI q) (hq : q < 900) : ∃ m' b', L_X8_feedNumber_3 x (n + 1) m b sh = L_X8_feedNumber_3 x n m' b' sh' ∧ gS m' 1 = nI (q + 1) ∧ (∀ k, k ≠ 1 → gS m' k = gS m k) ∧ b'.2 0 = upd (b.2 0) q (byC x s) := by
  obtain ⟨b1, w1, a1, c1, d1⟩ := wA_e (p := b) 0 (n := 900) (j := q) (byC x s) hq (by decide)
  obtain ⟨m1, w2, a2, c2, d2⟩ := pS_e m 1 (nI q + 1)
  refine ⟨m1, b1, ?_, by rw [a2, nI_1], c2, c1⟩
  show b_X8_feedNumber_3 x _ m b sh = _
  unfold b_X8_feedNumber_3
  rw [if_neg h0, h1, if_neg (show ¬ (900 : Int32) ≤ nI q from nI_ge (b := 900) hq (by decide)), hs]
  rw [← hs2, hs]
  show ((wA b 0 900 (nI q) (byC x s)).bind fun b_am1 => (some (pS m 1 (nI q + 1))).bind fun m_am2 => L_X8_feedNumber_3 x n m_am2 b_am1 (nI s + (-8))) = _
  rw [w1, bs, bs, w2]
theorem x_fn {x : Int32} {q : Nat} (h1 : gS m 1 = nI q) (hq : q + 4 ≤ 900) : ∃ m' b', f_X8_feedNumber m b x = some (m', b') ∧ gS m' 1 = nI (q + 4) ∧ (∀ k, k ≠ 1 → gS m' k = gS m k) ∧ ∀ j, b'.2 0 j = if q ≤ j ∧ j < q + 4 then byC x (24 - 8 * (j - q)) else b.2 0 j := by
  obtain ⟨m1, b1, e1, a1, c1, d1⟩ := x_fs (b := b) (x := x) (n := 11999) (s := 24) (sh := 24) (sh' := 16) rfl (by decide) (by decide) h1 (by omega)
  obtain ⟨m2, b2, e2, a2, c2, d2⟩ := x_fs (b := b1) (x := x) (n := 11998) (s := 16) (sh := 16) (sh' := 8) rfl (by decide) (by decide) a1 (by omega)
  obtain ⟨m3, b3, e3, a3, c3, d3⟩ := x_fs (b := b2) (x := x) (n := 11997) (s := 8) (sh := 8) (sh' := 0) rfl (by decide) (by decide) a2 (by omega)
  obtain ⟨m4, b4, e4, a4, c4, d4⟩ := x_fs (b := b3) (x := x) (n := 11996) (s := 0) (sh := 0) (sh' := -8) rfl (by decide) (by decide) a3 (by omega)
  refine ⟨m4, b4, ?_, a4, fun k hk => by rw [c4 k hk, c3 k hk, c2 k hk, c1 k hk], fun j => ?_⟩
  · have e0 : f_X8_feedNumber m b x = L_X8_feedNumber_3 x (11999 + 1) m b 24 := rfl
    have e5 : L_X8_feedNumber_3 x 11996 m4 b4 (-8) = some (m4, b4) := by
      have : L_X8_feedNumber_3 x 11996 m4 b4 (-8) = b_X8_feedNumber_3 x (L_X8_feedNumber_3 x 11995) m4 b4 (-8) := rfl
      rw [this]
      unfold b_X8_feedNumber_3
      rw [if_pos (by decide)]
    rw [e0, e1, e2, e3, e4, e5]
  · rw [d4, d3, d2, d1]
    by_cases g : q ≤ j ∧ j < q + 4
    · rw [if_pos g]
      have : j = q ∨ j = q + 1 ∨ j = q + 2 ∨ j = q + 3 := by omega
      rcases this with g' | g' | g' | g'
      · subst g'; rw [up_n (by omega), up_n (by omega), up_n (by omega), up_s, Nat.sub_self]
      · subst g'; rw [up_n (by omega), up_n (by omega), up_s, show q + 1 - q = 1 by omega]
      · subst g'; rw [up_n (by omega), up_s, show q + 2 - q = 2 by omega]
      · subst g'; rw [up_s, show q + 3 - q = 3 by omega]
    · rw [if_neg g, up_n (by omega), up_n (by omega), up_n (by omega), up_n (by omega)]
theorem m_fe {x1 x2 x3 x4 x5 : Int32} {q : Nat} (hq : q + 20 ≤ 900) : ∀ (r k n : Nat) (D : Pic), k + r = 20 → r < n → gS D 25 = nI (q + k) → (∀ i, i ≠ 25 → gS D i = gS d i) → (∀ i, i ≠ 24 → D.2 i = d.2 i) → (∀ j, D.2 24 j = if q ≤ j ∧ j < q + k then byD (agN x1 x2 x3 x4 x5 (j - q)) (24 - 8 * ((j - q) % 4)) else d.2 24 j) → ∃ d', L_X9_feed_23 x1 x2 x3 x4 x5 n D (nI k) = some (nI (q + 20), d') ∧ gS d' 25 = nI (q + 20) ∧ (∀ i, i ≠ 25 → gS d' i = gS d i) ∧ (∀ i, i ≠ 24 → d'.2 i = d.2 i) ∧ ∀ j, d'.2 24 j = if q ≤ j ∧ j < q + 20 then byD (agN x1 x2 x3 x4 x5 (j - q)) (24 - 8 * ((j - q) % 4)) else d.2 24 j := by
  have rm4 : ∀ k, k < 20 → rmI (nI k) 4 = some (nI (k % 4)) := by decide +kernel
  have sh4 : ∀ k, k < 4 → (24 : Int32) - 8 * nI k = nI (24 - 8 * k) := by decide +kernel
  intro r
  induction r with
  | zero =>
    intro k n D h1 h2 e1 e2 e3 e4
    cases n with
    | zero => omega
    | succ n =>
      have : k = 20 := by omega
      subst this
      refine ⟨D, ?_, e1, e2, e3, e4⟩
      show b_X9_feed_23 x1 x2 x3 x4 x5 _ D (nI 20) = _
      unfold b_X9_feed_23
      rw [if_pos (by decide), e1]
  | succ r ih =>
    intro k n D h1 h2 e1 e2 e3 e4
    cases n with
    | zero => omega
    | succ n =>
      obtain ⟨D1, w1, a1, b1, c1⟩ := wA_e (p := D) 24 (n := 900) (j := q + k) (byD (agN x1 x2 x3 x4 x5 k) (24 - 8 * (k % 4))) (by omega) (by decide)
      obtain ⟨D2, w2, a2, b2, c2⟩ := pS_e D1 25 (gS D1 25 + 1)
      have g1 : ∀ i, gS D1 i = gS D i := fun i => by unfold gS; rw [a1]
      obtain ⟨d', f1, f2, f3, f4, f5⟩ := ih (k + 1) n D2 (by omega) (by omega) (by rw [a2, g1, e1, nI_1, Nat.add_assoc]) (fun i hi => by rw [b2 i hi, g1]; exact e2 i hi) (fun i hi => by rw [c2, c1 i hi]; exact e3 i hi) (fun j => by
        rw [c2, b1]
        by_cases g : j = q + k
        · subst g
          rw [up_s, if_pos ⟨by omega, by omega⟩, show q + k - q = k by omega]
        · rw [up_n g, e4 j]
          by_cases g' : q ≤ j ∧ j < q + k
          · rw [if_pos g', if_pos ⟨by omega, by omega⟩]
          · rw [if_neg g', if_neg (by omega)])
      have key : ∀ x, x = agN x1 x2 x3 x4 x5 k → b_X9_feed_76 x1 x2 x3 x4 x5 (L_X9_feed_23 x1 x2 x3 x4 x5 n) D (nI k) x = L_X9_feed_23 x1 x2 x3 x4 x5 n D2 (nI (k + 1)) := by
        intro x hx
        unfold b_X9_feed_76
        rw [rm4 k (by omega), bs, sh4 (k % 4) (Nat.mod_lt _ (by decide)), e1]
        show ((wA D 24 900 (nI (q + k)) (byD x (24 - 8 * (k % 4)))).bind fun d_ad3 => (some (pS d_ad3 25 ((gS d_ad3 25) + 1))).bind fun d_ad4 => L_X9_feed_23 x1 x2 x3 x4 x5 n d_ad4 (nI k + 1)) = _
        rw [hx, w1, bs, bs, w2, nI_1]
      refine ⟨d', ?_, f2, f3, f4, f5⟩
      rw [← f1]
      show b_X9_feed_23 x1 x2 x3 x4 x5 _ D (nI k) = _
      unfold b_X9_feed_23
      rw [if_neg (show ¬ (20 : Int32) ≤ nI k from nI_ge (b := 20) (by omega) (by decide))]
      by_cases k4 : k < 4
      · rw [if_neg (show ¬ (4 : Int32) ≤ nI k from nI_ge (b := 4) k4 (by decide))]
        exact key _ (by unfold agN; rw [if_pos k4])
      · rw [if_pos (show (4 : Int32) ≤ nI k from nI_le (a := 4) (by omega) (by omega))]
        by_cases k8 : k < 8
        · rw [if_neg (show ¬ (8 : Int32) ≤ nI k from nI_ge (b := 8) k8 (by decide))]
          exact key _ (by unfold agN; rw [if_neg k4, if_pos k8])
        · rw [if_pos (show (8 : Int32) ≤ nI k from nI_le (a := 8) (by omega) (by omega))]
          by_cases k12 : k < 12
          · rw [if_neg (show ¬ (12 : Int32) ≤ nI k from nI_ge (b := 12) k12 (by decide))]
            exact key _ (by unfold agN; rw [if_neg k4, if_neg k8, if_pos k12])
          · rw [if_pos (show (12 : Int32) ≤ nI k from nI_le (a := 12) (by omega) (by omega))]
            by_cases k16 : k < 16
            · rw [if_neg (show ¬ (16 : Int32) ≤ nI k from nI_ge (b := 16) k16 (by decide))]
              exact key _ (by unfold agN; rw [if_neg k4, if_neg k8, if_neg k12, if_pos k16])
            · rw [if_pos (show (16 : Int32) ≤ nI k from nI_le (a := 16) (by omega) (by omega))]
              exact key _ (by unfold agN; rw [if_neg k4, if_neg k8, if_neg k12, if_neg k16])
theorem q_feed (H : RLX m b sc c t p z e h rs d) (x1 x2 x3 x4 x5 : Int32) : ∃ v m' b' d', f_X8_feed m b x1 x2 x3 x4 x5 = some (v, m', b') ∧ f_X9_feed d x1 x2 x3 x4 x5 = some (v, d') ∧ RLX m' b' sc c t p z e h rs d' := by
  have H' := H.d0
  obtain ⟨tl, T, t1, t2, t3, t4⟩ := H.2.1
  by_cases g : tl + 20 ≤ 900
  · have g' : nI tl + 20 ≤ 900 := by
      rw [show (20 : Int32) = nI 20 from rfl, nI_add]
      exact nI_le (b := 900) g (by decide)
    obtain ⟨m1, b1, e1, a1, c1, f1⟩ := x_fn (b := b) (x := x1) t1 (by omega)
    obtain ⟨m2, b2, e2, a2, c2, f2⟩ := x_fn (b := b1) (x := x2) a1 (by omega)
    obtain ⟨m3, b3, e3, a3, c3, f3⟩ := x_fn (b := b2) (x := x3) a2 (by omega)
    obtain ⟨m4, b4, e4, a4, c4, f4⟩ := x_fn (b := b3) (x := x4) a3 (by omega)
    obtain ⟨m5, b5, e5, a5, c5, f5⟩ := x_fn (b := b4) (x := x5) a4 (by omega)
    have a5' : gS m5 1 = nI (tl + 20) := a5
    have d0 : gS (pS d 0 0) 25 = nI (tl + 0) := by rw [gS_n (by decide)]; exact t2
    obtain ⟨d', w1, y1, y2, y3, y4⟩ := m_fe (d := pS d 0 0) (x1 := x1) (x2 := x2) (x3 := x3) (x4 := x4) (x5 := x5) g 20 0 FU (pS d 0 0) (by omega) (FU_ge (by omega)) d0 (fun _ _ => rfl) (fun _ _ => rfl) (fun j => by rw [if_neg (by omega)])
    have hm : ∀ k, k ≠ 1 → gS m5 k = gS m k := fun k hk => by rw [c5 k hk, c4 k hk, c3 k hk, c2 k hk, c1 k hk]
    refine ⟨nI (tl + 20), m5, b5, d', ?_, ?_, ?_⟩
    · unfold f_X8_feed
      rw [t1, if_pos g', e1, bs, e2, bs, e3, bs, e4, bs, e5, bs, a5']
    · unfold f_X9_feed
      rw [bs, gS_n (by decide), t2, if_pos g']
      exact w1
    · have hb : ∀ j, b5.2 0 j = if tl ≤ j ∧ j < tl + 20 then byC (agN x1 x2 x3 x4 x5 (j - tl)) (24 - 8 * ((j - tl) % 4)) else b.2 0 j := by
        intro j
        rw [f5 j]
        unfold agN
        by_cases q5 : tl + 4 + 4 + 4 + 4 ≤ j ∧ j < tl + 4 + 4 + 4 + 4 + 4
        · rw [if_pos q5, if_pos ⟨by omega, by omega⟩, if_neg (by omega), if_neg (by omega), if_neg (by omega), if_neg (by omega), show (j - tl) % 4 = j - (tl + 4 + 4 + 4 + 4) by omega]
        · rw [if_neg q5, f4 j]
          by_cases q4 : tl + 4 + 4 + 4 ≤ j ∧ j < tl + 4 + 4 + 4 + 4
          · rw [if_pos q4, if_pos ⟨by omega, by omega⟩, if_neg (by omega), if_neg (by omega), if_neg (by omega), if_pos (by omega), show (j - tl) % 4 = j - (tl + 4 + 4 + 4) by omega]
          · rw [if_neg q4, f3 j]
            by_cases q3 : tl + 4 + 4 ≤ j ∧ j < tl + 4 + 4 + 4
            · rw [if_pos q3, if_pos ⟨by omega, by omega⟩, if_neg (by omega), if_neg (by omega), if_pos (by omega), show (j - tl) % 4 = j - (tl + 4 + 4) by omega]
            · rw [if_neg q3, f2 j]
              by_cases q2 : tl + 4 ≤ j ∧ j < tl + 4 + 4
              · rw [if_pos q2, if_pos ⟨by omega, by omega⟩, if_neg (by omega), if_pos (by omega), show (j - tl) % 4 = j - (tl + 4) by omega]
              · rw [if_neg q2, f1 j]
                by_cases q1 : tl ≤ j ∧ j < tl + 4
                · rw [if_pos q1, if_pos ⟨by omega, by omega⟩, if_pos (by omega), show (j - tl) % 4 = j - tl by omega]
                · rw [if_neg q1, if_neg (by omega)]
      have hT' : ∃ T', TPE b5 d' T' := by
        refine ⟨fun j => if tl ≤ j ∧ j < tl + 20 then Classical.choose (by_ex (agN x1 x2 x3 x4 x5 (j - tl)) (24 - 8 * ((j - tl) % 4)) (by omega)) else T j, fun j hj => ?_⟩
        dsimp only
        rw [hb j, y4 j]
        by_cases g : tl ≤ j ∧ j < tl + 20
        · rw [if_pos g, if_pos g, if_pos g]
          exact Classical.choose_spec (by_ex (agN x1 x2 x3 x4 x5 (j - tl)) (24 - 8 * ((j - tl) % 4)) (by omega))
        · rw [if_neg g, if_neg g, if_neg g]
          exact t4 j hj
      obtain ⟨T', hT'⟩ := hT'
      obtain ⟨⟨k1, k2, k3⟩, _, h3, h4, h5⟩ := H'
      refine ⟨⟨by rw [hm 3 (by decide), y2 1 (by decide)]; exact k1, by rw [hm 4 (by decide), y2 31 (by decide)]; exact k2, by rw [y2 2 (by decide), hm 3 (by decide), hm 5 (by decide)]; exact k3⟩, ⟨tl + 20, T', a5', y1, g, hT'⟩, fun j hj => by rw [y3 18 (by decide)]; exact h3 j hj, h4, h5.fr (hm 2 (by decide)) ⟨fun k hk => y2 k (by omega), fun k hk => y3 k (by omega), fun j hj => by rw [y3 20 (by decide)]⟩⟩
  · have g' : ¬ nI tl + 20 ≤ 900 := by
      rw [show (20 : Int32) = nI 20 from rfl, nI_add]
      exact nI_ge (a := 900) (by omega) (by omega)
    refine ⟨-1, m, b, pS d 0 0, ?_, ?_, H'⟩
    · unfold f_X8_feed
      rw [t1, if_neg g']
    · unfold f_X9_feed
      rw [bs, gS_n (by decide), t2, if_neg g']
end FE
