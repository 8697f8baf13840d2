/-! String constants; the empty heap (words that the plain functions need) -/
def zStrLen (i : Nat) (h : zH) : Option (Int32 × zH) := if i < 29 then some (Int32.ofNat (zsln.getD i 0), h) else none
def zStrAt (i : Nat) (k : Int32) (h : zH) : Option (Int32 × zH) := if i < 29 ∧ ¬ (k < 0 ∨ zsln.getD i 0 ≤ k.toNatClampNeg) then some ((zsby.getD i []).getD k.toNatClampNeg 0, h) else none
def zh0 : zH := ((fun _ => 0, fun _ => 0, fun _ _ => 0, 0, 0), fun _ _ => 0, fun _ _ => 0)
