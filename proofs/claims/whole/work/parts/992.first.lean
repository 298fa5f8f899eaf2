/-! PURE: the first law is read -/
def fB : List Nat := [114, 117, 98, 32, 49, 48, 32, 43, 32, 109, 111, 114, 101, 32, 45, 32, 102, 97, 99, 101, 32, 42, 32, 51, 32, 59, 32, 109, 105, 110, 117, 116, 101, 115, 32, 50, 32, 43, 32, 109, 111, 114, 101, 32, 59, 32, 115, 101, 101, 110, 32, 49, 32, 43, 32, 102, 97, 99, 101, 32, 59]
def jF : mh_I := fun a i => if a = 0 then (if i = 5 then 61 else 0) else if a = 5 then nI (fB.getD i 0) else if a = 13 then wT.getD i 0 else 0
theorem f_ev : (X6_text jF).map Prod.fst = some 0 := by decide +kernel
