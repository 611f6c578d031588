section MOT
variable {l : Launch} {θ : e_T} {ph : e_PH} {mo : Nat} {μ : Nat → Nat} {σ : SG} {t : Int32} {s : Nat → Int32} {F : Nat → Nat → Int32}
def repM (n B : Nat) (M : Nat → Nat) (k : Nat) : Bool := subN B k && allB n (fun i => k.testBit (n - 1 - i) || subN (M i) k)
end MOT
