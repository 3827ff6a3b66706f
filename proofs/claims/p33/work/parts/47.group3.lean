/-! group: the reference -/
section G3
variable {n : Nat} {g : Gm} {S S0 : Sg} {Q : Nat → Int32 → Sg → Prop}
def fnd (g : Gm) (s row b : Int32) : Int32 := if b = -1 then -1 else g 104 (nt (g 123 (nt s))) * row + b
end G3
