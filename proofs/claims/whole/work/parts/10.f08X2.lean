def f_X2_forget (h_ah : Pic) : Option (Pic) := (some (pS h_ah 2 0)).bind fun h_ah1 => some (h_ah1)
