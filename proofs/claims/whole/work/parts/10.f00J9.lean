def f_J9_max_7cf53 (x0 : Int32) (x1 : Int32) : Option (Int32) := if x0 < x1 then some (x1) else some (x0)
def f_J9_min_7cf53 (x0 : Int32) (x1 : Int32) : Option (Int32) := if x1 < x0 then some (x1) else some (x0)
