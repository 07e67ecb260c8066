set_option maxHeartbeats 4000000 in
set_option maxRecDepth 100000 in
theorem c_X2_forget (l : Launch) (G : GG) (ah : Nat → Nat) (rg : Nat → Option Nat) (sz : Nat) (h_ah : Pic)  (out : Pic) (hf : f_X2_forget h_ah = some out) : Met l yX2_forget (.code yX2_forget cX2_forget 1 none :: BT) ({ frames := 0, cells := 0, slots := 0, locals := 0 }) (va_Pc [.ref (ah 99)] (PreW G sz (hO G ah rg h_ah ++ []))) (Don G (va_A (hO G ah rg h_ah ++ []) sz) (hO G ah rg out ++ [])) 0 0 (va_A (hO G ah rg h_ah ++ []) sz) := by
  refine Met.into (by decide) (Nat.le_of_ble_eq_true rfl) ?_
  intro p e s m below meth c C hsz ls hl hw
  have hl : lv_has ls 1 [(0, .ref (ah 99))] := hl
  clear hsz
  generalize va_A (hO G ah rg h_ah ++ []) sz = A at hw ⊢
  unfold f_X2_forget at hf
  refine r_aload0 C hl 0 rfl dX2_forget_0 ?_
  refine lv_iconst (v := 0) C.1 C.2.1 dX2_forget_1 (by decide) ?_
  obtain ⟨h_ah1, e1, hf⟩ := bx hf
  refine r_put C hw _ (gx_h hO_o) 2 fp_X2_17 rfl rfl (Nat.le_of_ble_eq_true rfl) (hO G ah rg h_ah1 ++ []) (sx_h hO_o (hO_p2 e1)) dX2_forget_2 (fun H locs hw => ?_)
  exact fin_v C hw (Option.some.inj hf) (fun o => (hO G ah rg o ++ [])) rfl dX2_forget_5
