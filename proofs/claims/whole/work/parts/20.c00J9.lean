set_option maxHeartbeats 4000000 in
set_option maxRecDepth 100000 in
theorem c_J9_max_7cf53 (l : Launch) (G : GG)  (sz : Nat)  (x0 x1 : Int32) (out : Int32) (hf : f_J9_max_7cf53 x0 x1 = some out) : Met l yJ9_max_7cf53 (.code yJ9_max_7cf53 cJ9_max_7cf53 2 (some .int) :: BT) ({ frames := 0, cells := 0, slots := 0, locals := 0 }) (va_Pc [.int x0, .int x1] (PreW G sz [])) (Ans G out (va_A [] sz) []) 0 0 (va_A [] sz) := by
  refine Met.into (by decide) (Nat.le_of_ble_eq_true rfl) ?_
  intro p e s m below meth c C hsz ls hl hw
  have hl : lv_has ls 2 [(0, .int x0), (1, .int x1)] := hl
  clear hsz
  generalize va_A [] sz = A at hw ⊢
  unfold f_J9_max_7cf53 at hf
  refine r_iload0 C hl 0 rfl dJ9_max_7cf53_0 ?_
  refine r_iload0 C hl 1 rfl dJ9_max_7cf53_1 ?_
  refine lv_icmp_lt (tgt := 9) C.1 C.2.1 dJ9_max_7cf53_2 (by decide) (fun hc => ?_) (fun hc => ?_)
  · replace hf := ifp hf hc
    refine r_iload0 C hl 1 rfl dJ9_max_7cf53_9 ?_
    exact fin_i C hw (Option.some.inj hf) (fun o => o) (fun o => []) rfl rfl dJ9_max_7cf53_10
  · replace hf := ifn hf hc
    refine r_iload0 C hl 0 rfl dJ9_max_7cf53_5 ?_
    refine lv_goto (tgt := 10) C.1 C.2.1 dJ9_max_7cf53_6 (by decide) ?_
    exact fin_i C hw (Option.some.inj hf) (fun o => o) (fun o => []) rfl rfl dJ9_max_7cf53_10
set_option maxHeartbeats 4000000 in
set_option maxRecDepth 100000 in
theorem c_J9_min_7cf53 (l : Launch) (G : GG)  (sz : Nat)  (x0 x1 : Int32) (out : Int32) (hf : f_J9_min_7cf53 x0 x1 = some out) : Met l yJ9_min_7cf53 (.code yJ9_min_7cf53 cJ9_min_7cf53 2 (some .int) :: BT) ({ frames := 0, cells := 0, slots := 0, locals := 0 }) (va_Pc [.int x0, .int x1] (PreW G sz [])) (Ans G out (va_A [] sz) []) 0 0 (va_A [] sz) := by
  refine Met.into (by decide) (Nat.le_of_ble_eq_true rfl) ?_
  intro p e s m below meth c C hsz ls hl hw
  have hl : lv_has ls 2 [(0, .int x0), (1, .int x1)] := hl
  clear hsz
  generalize va_A [] sz = A at hw ⊢
  unfold f_J9_min_7cf53 at hf
  refine r_iload0 C hl 0 rfl dJ9_min_7cf53_0 ?_
  refine r_iload0 C hl 1 rfl dJ9_min_7cf53_1 ?_
  refine lv_icmp_gt (tgt := 9) C.1 C.2.1 dJ9_min_7cf53_2 (by decide) (fun hc => ?_) (fun hc => ?_)
  · replace hf := ifp hf hc
    refine r_iload0 C hl 1 rfl dJ9_min_7cf53_9 ?_
    exact fin_i C hw (Option.some.inj hf) (fun o => o) (fun o => []) rfl rfl dJ9_min_7cf53_10
  · replace hf := ifn hf hc
    refine r_iload0 C hl 0 rfl dJ9_min_7cf53_5 ?_
    refine lv_goto (tgt := 10) C.1 C.2.1 dJ9_min_7cf53_6 (by decide) ?_
    exact fin_i C hw (Option.some.inj hf) (fun o => o) (fun o => []) rfl rfl dJ9_min_7cf53_10
