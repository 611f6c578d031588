def isMinB (σ : SG) (c s : Nat) : Bool := detB σ s c && allB s (fun l => !subN l s || !detB σ l c)
def minCnt (σ : SG) (c : Nat) : Nat := cntB 32 (isMinB σ c)
