section SEM46
variable {Q : Mm → Prop}
def z0 : Mm := (fun _ _ _ => 0, fun _ _ _ => 0)
def MR : Mm := sR (sR (sR (sR (sR (sR z0 30 1 1 1) 30 1 3 1) 30 1 4 1) 30 1 6 1) 30 1 7 1) 30 1 8 1
def fS : Nat → Int32 := up (up (up (up (up (up (up (up (up (up (fun _ => 0) 5 5000) 20 10) 21 20) 22 5) 24 30) 25 15) 27 10) 28 25) 29 40) 31 5
end SEM46
