/-! The Model's way to a letter, counted; symbols opened. -/
section MD10
variable {M : PM} {m : Nat} {G : GS}
def opM (G : GS) (z : Int) : List Int := G.2.take z.toNat ++ (xof G.1 (rat G.2 z - 8).toNat ++ G.2.drop (z.toNat + 1))
end MD10
