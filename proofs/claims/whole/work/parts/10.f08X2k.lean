/-! History.keep, takeBack: the states kept, by their places in the ring -/
abbrev Q4 : Type := Pic × Pic × Pic × Pic
def Q0 : Q4 := (P0, PL, P0, P0)
/-- a State copied into another: T, P, Z, E of the source, of the target -/
def cpQ (t p z e : Pic) (q : Q4) : Option Q4 := (f_X6_copyFrom t q.1 p q.2.1 z q.2.2.1 e q.2.2.2).bind fun u => some (u.1, u.2.1, u.2.2.1, u.2.2.2)
def f_X2_keep (h : Pic) (rs : Nat → Option Q4) (t p z e : Pic) : Option (Pic × (Nat → Option Q4)) := (some (if gS h 1 < 10 then h else pS h 1 0)).bind fun h1 => if gS h1 1 < 0 ∨ 10 ≤ (gS h1 1).toNatClampNeg then none else (cpQ t p z e ((rs (gS h1 1).toNatClampNeg).getD Q0)).bind fun q => (some (pS h1 1 (gS h1 1 + 1))).bind fun h2 => some (pS h2 2 (if gS h2 2 + 1 < 10 then gS h2 2 + 1 else 10), va_up rs (gS h1 1).toNatClampNeg (some q))
def f_X2_takeBack (h t p z e : Pic) (rs : Nat → Option Q4) : Option (Int32 × Pic × Pic × Pic × Pic × Pic) := (some (if 0 < gS h 1 then h else pS h 1 10)).bind fun h1 => if gS h1 1 - 1 < 0 ∨ 10 ≤ (gS h1 1 - 1).toNatClampNeg then none else if gS h1 2 ≤ 0 then some (0, h1, t, p, z, e) else match rs (gS h1 1 - 1).toNatClampNeg with
  | none => some (0, h1, t, p, z, e)
  | some q => (cpQ q.1 q.2.1 q.2.2.1 q.2.2.2 (t, p, z, e)).bind fun n => (some (pS h1 1 (gS h1 1 - 1))).bind fun h2 => some (1, pS h2 2 (gS h2 2 - 1), n.1, n.2.1, n.2.2.1, n.2.2.2)
def stW (G : GG) (ad : Nat → Nat) (q : Q4) : va_W := tO G ad q.1 ++ (pO G ad q.2.1 ++ (zO G ad q.2.2.1 ++ (eO G ad q.2.2.2 ++ [])))
def rgC (G : GG) (ads : Nat → Nat → Nat) (rs : Nat → Option Q4) (i : Nat) : va_W := match rs i with
  | none => []
  | some q => stW G (ads i) q
def kO (G : GG) (ads : Nat → Nat → Nat) (rs : Nat → Option Q4) : va_W := (List.range 10).flatMap (rgC G ads rs)
def rgA (ads : Nat → Nat → Nat) (rs : Nat → Option Q4) : Nat → Option Nat := fun i => (rs i).map (fun _ => ads i 299)
