/-! The decompiled program, 1: the objects that the two constructors make, and rows for walking a method over them -/
def S0k : Nat → Nat := fun o => bif Nat.blt o 35 then (bif Nat.blt o 17 then (bif Nat.blt o 8 then (bif Nat.blt o 4 then (bif Nat.blt o 2 then (bif Nat.blt o 1 then (bif Nat.beq o 0 then 12 else 0) else (bif Nat.beq o 1 then 6 else 0)) else (bif Nat.blt o 3 then (bif Nat.beq o 2 then 21 else 0) else (bif Nat.beq o 3 then 7 else 0))) else (bif Nat.blt o 6 then (bif Nat.blt o 5 then (bif Nat.beq o 4 then 23 else 0) else (bif Nat.beq o 5 then 23 else 0)) else (bif Nat.blt o 7 then (bif Nat.beq o 6 then 20 else 0) else (bif Nat.beq o 7 then 23 else 0)))) else (bif Nat.blt o 12 then (bif Nat.blt o 10 then (bif Nat.blt o 9 then (bif Nat.beq o 8 then 20 else 0) else (bif Nat.beq o 9 then 10 else 0)) else (bif Nat.blt o 11 then (bif Nat.beq o 10 then 21 else 0) else (bif Nat.beq o 11 then 10 else 0))) else (bif Nat.blt o 14 then (bif Nat.blt o 13 then (bif Nat.beq o 12 then 21 else 0) else (bif Nat.beq o 13 then 10 else 0)) else (bif Nat.blt o 15 then (bif Nat.beq o 14 then 21 else 0) else (bif Nat.blt o 16 then (bif Nat.beq o 15 then 9 else 0) else (bif Nat.beq o 16 then 20 else 0)))))) else (bif Nat.blt o 26 then (bif Nat.blt o 21 then (bif Nat.blt o 19 then (bif Nat.blt o 18 then (bif Nat.beq o 17 then 20 else 0) else (bif Nat.beq o 18 then 20 else 0)) else (bif Nat.blt o 20 then (bif Nat.beq o 19 then 4 else 0) else (bif Nat.beq o 20 then 3 else 0))) else (bif Nat.blt o 24 then (bif Nat.blt o 23 then (bif Nat.beq o 21 then 2 else 0) else (bif Nat.beq o 23 then 20 else 0)) else (bif Nat.blt o 25 then (bif Nat.beq o 24 then 11 else 0) else (bif Nat.beq o 25 then 21 else 0)))) else (bif Nat.blt o 30 then (bif Nat.blt o 28 then (bif Nat.blt o 27 then (bif Nat.beq o 26 then 20 else 0) else (bif Nat.beq o 27 then 23 else 0)) else (bif Nat.blt o 29 then (bif Nat.beq o 28 then 1 else 0) else (bif Nat.beq o 29 then 20 else 0))) else (bif Nat.blt o 32 then (bif Nat.blt o 31 then (bif Nat.beq o 30 then 20 else 0) else (bif Nat.beq o 31 then 20 else 0)) else (bif Nat.blt o 33 then (bif Nat.beq o 32 then 22 else 0) else (bif Nat.blt o 34 then (bif Nat.beq o 33 then 8 else 0) else (bif Nat.beq o 34 then 20 else 0))))))) else (bif Nat.blt o 52 then (bif Nat.blt o 43 then (bif Nat.blt o 39 then (bif Nat.blt o 37 then (bif Nat.blt o 36 then (bif Nat.beq o 35 then 20 else 0) else (bif Nat.beq o 36 then 20 else 0)) else (bif Nat.blt o 38 then (bif Nat.beq o 37 then 22 else 0) else (bif Nat.beq o 38 then 5 else 0))) else (bif Nat.blt o 41 then (bif Nat.blt o 40 then (bif Nat.beq o 39 then 20 else 0) else (bif Nat.beq o 40 then 20 else 0)) else (bif Nat.blt o 42 then (bif Nat.beq o 41 then 20 else 0) else (bif Nat.beq o 42 then 13 else 0)))) else (bif Nat.blt o 47 then (bif Nat.blt o 45 then (bif Nat.blt o 44 then (bif Nat.beq o 43 then 20 else 0) else (bif Nat.beq o 44 then 20 else 0)) else (bif Nat.blt o 46 then (bif Nat.beq o 45 then 20 else 0) else (bif Nat.beq o 46 then 20 else 0))) else (bif Nat.blt o 49 then (bif Nat.blt o 48 then (bif Nat.beq o 47 then 20 else 0) else (bif Nat.beq o 48 then 20 else 0)) else (bif Nat.blt o 50 then (bif Nat.beq o 49 then 20 else 0) else (bif Nat.blt o 51 then (bif Nat.beq o 50 then 20 else 0) else (bif Nat.beq o 51 then 20 else 0)))))) else (bif Nat.blt o 61 then (bif Nat.blt o 56 then (bif Nat.blt o 54 then (bif Nat.blt o 53 then (bif Nat.beq o 52 then 20 else 0) else (bif Nat.beq o 53 then 22 else 0)) else (bif Nat.blt o 55 then (bif Nat.beq o 54 then 22 else 0) else (bif Nat.beq o 55 then 20 else 0))) else (bif Nat.blt o 58 then (bif Nat.blt o 57 then (bif Nat.beq o 56 then 20 else 0) else (bif Nat.beq o 57 then 22 else 0)) else (bif Nat.blt o 59 then (bif Nat.beq o 58 then 22 else 0) else (bif Nat.blt o 60 then (bif Nat.beq o 59 then 20 else 0) else (bif Nat.beq o 60 then 20 else 0))))) else (bif Nat.blt o 65 then (bif Nat.blt o 63 then (bif Nat.blt o 62 then (bif Nat.beq o 61 then 20 else 0) else (bif Nat.beq o 62 then 20 else 0)) else (bif Nat.blt o 64 then (bif Nat.beq o 63 then 20 else 0) else (bif Nat.beq o 64 then 20 else 0))) else (bif Nat.blt o 67 then (bif Nat.blt o 66 then (bif Nat.beq o 65 then 20 else 0) else (bif Nat.beq o 66 then 20 else 0)) else (bif Nat.blt o 68 then (bif Nat.beq o 67 then 20 else 0) else (bif Nat.blt o 69 then (bif Nat.beq o 68 then 20 else 0) else (bif Nat.beq o 69 then 20 else 0)))))))
def S0r_0 : Nat → Nat := fun f => bif Nat.blt f 4 then (bif Nat.blt f 2 then (bif Nat.blt f 1 then (bif Nat.beq f 0 then 2 else 0) else (bif Nat.beq f 1 then 4 else 0)) else (bif Nat.blt f 3 then (bif Nat.beq f 2 then 10 else 0) else (bif Nat.beq f 3 then 12 else 0))) else (bif Nat.blt f 6 then (bif Nat.blt f 5 then (bif Nat.beq f 4 then 14 else 0) else (bif Nat.beq f 5 then 20 else 0)) else (bif Nat.blt f 7 then (bif Nat.beq f 6 then 21 else 0) else (bif Nat.beq f 7 then 39 else 0)))
def S0r_1 : Nat → Nat := fun f => bif Nat.beq f 0 then 3 else 0
def S0r_3 : Nat → Nat := fun f => bif Nat.blt f 2 then (bif Nat.blt f 1 then (bif Nat.beq f 0 then 5 else 0) else (bif Nat.beq f 1 then 6 else 0)) else (bif Nat.blt f 3 then (bif Nat.beq f 2 then 7 else 0) else (bif Nat.blt f 4 then (bif Nat.beq f 3 then 8 else 0) else (bif Nat.beq f 4 then 9 else 0)))
def S0r_9 : Nat → Nat := fun f => bif Nat.beq f 0 then 11 else 0
def S0r_11 : Nat → Nat := fun f => bif Nat.beq f 0 then 13 else 0
def S0r_13 : Nat → Nat := fun f => bif Nat.beq f 0 then 15 else 0
def S0r_15 : Nat → Nat := fun f => bif Nat.blt f 1 then (bif Nat.beq f 0 then 17 else 0) else (bif Nat.blt f 2 then (bif Nat.beq f 1 then 18 else 0) else (bif Nat.beq f 2 then 19 else 0))
def S0r_19 : Nat → Nat := fun f => bif Nat.blt f 1 then (bif Nat.beq f 0 then 2 else 0) else (bif Nat.blt f 2 then (bif Nat.beq f 1 then 16 else 0) else (bif Nat.beq f 2 then 4 else 0))
def S0r_20 : Nat → Nat := fun f => bif Nat.blt f 4 then (bif Nat.blt f 2 then (bif Nat.blt f 1 then (bif Nat.beq f 0 then 10 else 0) else (bif Nat.beq f 1 then 2 else 0)) else (bif Nat.blt f 3 then (bif Nat.beq f 2 then 4 else 0) else (bif Nat.beq f 3 then 16 else 0))) else (bif Nat.blt f 6 then (bif Nat.blt f 5 then (bif Nat.beq f 4 then 22 else 0) else (bif Nat.beq f 5 then 23 else 0)) else (bif Nat.blt f 7 then (bif Nat.beq f 6 then 25 else 0) else (bif Nat.blt f 8 then (bif Nat.beq f 7 then 29 else 0) else (bif Nat.beq f 8 then 34 else 0))))
def S0r_22 : Nat → Nat := fun f => bif Nat.beq f 0 then 24 else 0
def S0r_24 : Nat → Nat := fun f => bif Nat.blt f 2 then (bif Nat.blt f 1 then (bif Nat.beq f 0 then 10 else 0) else (bif Nat.beq f 1 then 22 else 0)) else (bif Nat.blt f 3 then (bif Nat.beq f 2 then 26 else 0) else (bif Nat.blt f 4 then (bif Nat.beq f 3 then 27 else 0) else (bif Nat.beq f 4 then 28 else 0)))
def S0r_28 : Nat → Nat := fun f => bif Nat.blt f 3 then (bif Nat.blt f 1 then (bif Nat.beq f 0 then 25 else 0) else (bif Nat.blt f 2 then (bif Nat.beq f 1 then 4 else 0) else (bif Nat.beq f 2 then 30 else 0))) else (bif Nat.blt f 4 then (bif Nat.beq f 3 then 31 else 0) else (bif Nat.blt f 5 then (bif Nat.beq f 4 then 32 else 0) else (bif Nat.beq f 5 then 33 else 0)))
def S0r_33 : Nat → Nat := fun f => bif Nat.blt f 3 then (bif Nat.blt f 1 then (bif Nat.beq f 0 then 25 else 0) else (bif Nat.blt f 2 then (bif Nat.beq f 1 then 4 else 0) else (bif Nat.beq f 2 then 29 else 0))) else (bif Nat.blt f 5 then (bif Nat.blt f 4 then (bif Nat.beq f 3 then 35 else 0) else (bif Nat.beq f 4 then 36 else 0)) else (bif Nat.blt f 6 then (bif Nat.beq f 5 then 37 else 0) else (bif Nat.beq f 6 then 38 else 0)))
def S0r_38 : Nat → Nat := fun f => bif Nat.blt f 2 then (bif Nat.blt f 1 then (bif Nat.beq f 0 then 2 else 0) else (bif Nat.beq f 1 then 20 else 0)) else (bif Nat.blt f 3 then (bif Nat.beq f 2 then 40 else 0) else (bif Nat.blt f 4 then (bif Nat.beq f 3 then 41 else 0) else (bif Nat.beq f 4 then 42 else 0)))
def S0r_42 : Nat → Nat := fun f => bif Nat.blt f 38 then (bif Nat.blt f 17 then (bif Nat.blt f 12 then (bif Nat.blt f 10 then (bif Nat.beq f 0 then 44 else 0) else (bif Nat.blt f 11 then (bif Nat.beq f 10 then 45 else 0) else (bif Nat.beq f 11 then 46 else 0))) else (bif Nat.blt f 14 then (bif Nat.beq f 12 then 47 else 0) else (bif Nat.blt f 15 then (bif Nat.beq f 14 then 48 else 0) else (bif Nat.beq f 15 then 49 else 0)))) else (bif Nat.blt f 25 then (bif Nat.blt f 23 then (bif Nat.beq f 17 then 50 else 0) else (bif Nat.blt f 24 then (bif Nat.beq f 23 then 51 else 0) else (bif Nat.beq f 24 then 52 else 0))) else (bif Nat.blt f 27 then (bif Nat.blt f 26 then (bif Nat.beq f 25 then 53 else 0) else (bif Nat.beq f 26 then 54 else 0)) else (bif Nat.blt f 37 then (bif Nat.beq f 27 then 55 else 0) else (bif Nat.beq f 37 then 56 else 0))))) else (bif Nat.blt f 67 then (bif Nat.blt f 52 then (bif Nat.blt f 43 then (bif Nat.beq f 38 then 57 else 0) else (bif Nat.blt f 44 then (bif Nat.beq f 43 then 58 else 0) else (bif Nat.beq f 44 then 59 else 0))) else (bif Nat.blt f 54 then (bif Nat.blt f 53 then (bif Nat.beq f 52 then 60 else 0) else (bif Nat.beq f 53 then 61 else 0)) else (bif Nat.blt f 65 then (bif Nat.beq f 54 then 62 else 0) else (bif Nat.beq f 65 then 63 else 0)))) else (bif Nat.blt f 71 then (bif Nat.blt f 69 then (bif Nat.beq f 67 then 64 else 0) else (bif Nat.blt f 70 then (bif Nat.beq f 69 then 65 else 0) else (bif Nat.beq f 70 then 66 else 0))) else (bif Nat.blt f 80 then (bif Nat.blt f 74 then (bif Nat.beq f 71 then 67 else 0) else (bif Nat.beq f 74 then 68 else 0)) else (bif Nat.blt f 81 then (bif Nat.beq f 80 then 69 else 0) else (bif Nat.beq f 81 then 70 else 0)))))
def S0r : Nat → Nat → Nat := fun o => bif Nat.blt o 19 then (bif Nat.blt o 9 then (bif Nat.blt o 1 then (bif Nat.beq o 0 then S0r_0 else (fun _ => 0)) else (bif Nat.blt o 3 then (bif Nat.beq o 1 then S0r_1 else (fun _ => 0)) else (bif Nat.beq o 3 then S0r_3 else (fun _ => 0)))) else (bif Nat.blt o 13 then (bif Nat.blt o 11 then (bif Nat.beq o 9 then S0r_9 else (fun _ => 0)) else (bif Nat.beq o 11 then S0r_11 else (fun _ => 0))) else (bif Nat.blt o 15 then (bif Nat.beq o 13 then S0r_13 else (fun _ => 0)) else (bif Nat.beq o 15 then S0r_15 else (fun _ => 0))))) else (bif Nat.blt o 28 then (bif Nat.blt o 22 then (bif Nat.blt o 20 then (bif Nat.beq o 19 then S0r_19 else (fun _ => 0)) else (bif Nat.beq o 20 then S0r_20 else (fun _ => 0))) else (bif Nat.blt o 24 then (bif Nat.beq o 22 then S0r_22 else (fun _ => 0)) else (bif Nat.beq o 24 then S0r_24 else (fun _ => 0)))) else (bif Nat.blt o 38 then (bif Nat.blt o 33 then (bif Nat.beq o 28 then S0r_28 else (fun _ => 0)) else (bif Nat.beq o 33 then S0r_33 else (fun _ => 0))) else (bif Nat.blt o 42 then (bif Nat.beq o 38 then S0r_38 else (fun _ => 0)) else (bif Nat.beq o 42 then S0r_42 else (fun _ => 0)))))
def S0t : Nat → Nat := fun o => bif Nat.blt o 35 then (bif Nat.blt o 17 then (bif Nat.blt o 8 then (bif Nat.blt o 4 then (bif Nat.blt o 2 then (bif Nat.blt o 1 then (bif Nat.beq o 0 then 8 else 0) else (bif Nat.beq o 1 then 1 else 0)) else (bif Nat.blt o 3 then (bif Nat.beq o 2 then 65536 else 0) else (bif Nat.beq o 3 then 7 else 0))) else (bif Nat.blt o 6 then (bif Nat.blt o 5 then (bif Nat.beq o 4 then 107 else 0) else (bif Nat.beq o 5 then 200 else 0)) else (bif Nat.blt o 7 then (bif Nat.beq o 6 then 200 else 0) else (bif Nat.beq o 7 then 200 else 0)))) else (bif Nat.blt o 12 then (bif Nat.blt o 10 then (bif Nat.blt o 9 then (bif Nat.beq o 8 then 200 else 0) else (bif Nat.beq o 9 then 2 else 0)) else (bif Nat.blt o 11 then (bif Nat.beq o 10 then 6000 else 0) else (bif Nat.beq o 11 then 2 else 0))) else (bif Nat.blt o 14 then (bif Nat.blt o 13 then (bif Nat.beq o 12 then 6001 else 0) else (bif Nat.beq o 13 then 2 else 0)) else (bif Nat.blt o 15 then (bif Nat.beq o 14 then 32 else 0) else (bif Nat.blt o 16 then (bif Nat.beq o 15 then 3 else 0) else (bif Nat.beq o 16 then 1792 else 0)))))) else (bif Nat.blt o 26 then (bif Nat.blt o 21 then (bif Nat.blt o 19 then (bif Nat.blt o 18 then (bif Nat.beq o 17 then 1792 else 0) else (bif Nat.beq o 18 then 107 else 0)) else (bif Nat.blt o 20 then (bif Nat.beq o 19 then 11 else 0) else (bif Nat.beq o 20 then 17 else 0))) else (bif Nat.blt o 23 then (bif Nat.blt o 22 then (bif Nat.beq o 21 then 3 else 0) else (bif Nat.beq o 22 then 2 else 0)) else (bif Nat.blt o 24 then (bif Nat.beq o 23 then 8 else 0) else (bif Nat.blt o 25 then (bif Nat.beq o 24 then 7 else 0) else (bif Nat.beq o 25 then 6001 else 0))))) else (bif Nat.blt o 30 then (bif Nat.blt o 28 then (bif Nat.blt o 27 then (bif Nat.beq o 26 then 6001 else 0) else (bif Nat.beq o 27 then 6001 else 0)) else (bif Nat.blt o 29 then (bif Nat.beq o 28 then 13 else 0) else (bif Nat.beq o 29 then 320 else 0))) else (bif Nat.blt o 32 then (bif Nat.blt o 31 then (bif Nat.beq o 30 then 320 else 0) else (bif Nat.beq o 31 then 320 else 0)) else (bif Nat.blt o 33 then (bif Nat.beq o 32 then 320 else 0) else (bif Nat.blt o 34 then (bif Nat.beq o 33 then 9 else 0) else (bif Nat.beq o 34 then 2 else 0))))))) else (bif Nat.blt o 52 then (bif Nat.blt o 43 then (bif Nat.blt o 39 then (bif Nat.blt o 37 then (bif Nat.blt o 36 then (bif Nat.beq o 35 then 2 else 0) else (bif Nat.beq o 36 then 2 else 0)) else (bif Nat.blt o 38 then (bif Nat.beq o 37 then 2 else 0) else (bif Nat.beq o 38 then 10 else 0))) else (bif Nat.blt o 41 then (bif Nat.blt o 40 then (bif Nat.beq o 39 then 17 else 0) else (bif Nat.beq o 40 then 256 else 0)) else (bif Nat.blt o 42 then (bif Nat.beq o 41 then 256 else 0) else (bif Nat.beq o 42 then 87 else 0)))) else (bif Nat.blt o 47 then (bif Nat.blt o 45 then (bif Nat.blt o 44 then (bif Nat.beq o 43 then 6000 else 0) else (bif Nat.beq o 44 then 2400 else 0)) else (bif Nat.blt o 46 then (bif Nat.beq o 45 then 200 else 0) else (bif Nat.beq o 46 then 200 else 0))) else (bif Nat.blt o 49 then (bif Nat.blt o 48 then (bif Nat.beq o 47 then 400 else 0) else (bif Nat.beq o 48 then 400 else 0)) else (bif Nat.blt o 50 then (bif Nat.beq o 49 then 400 else 0) else (bif Nat.blt o 51 then (bif Nat.beq o 50 then 8 else 0) else (bif Nat.beq o 51 then 8 else 0)))))) else (bif Nat.blt o 61 then (bif Nat.blt o 56 then (bif Nat.blt o 54 then (bif Nat.blt o 53 then (bif Nat.beq o 52 then 8 else 0) else (bif Nat.beq o 53 then 8 else 0)) else (bif Nat.blt o 55 then (bif Nat.beq o 54 then 8 else 0) else (bif Nat.beq o 55 then 65536 else 0))) else (bif Nat.blt o 58 then (bif Nat.blt o 57 then (bif Nat.beq o 56 then 65536 else 0) else (bif Nat.beq o 57 then 9 else 0)) else (bif Nat.blt o 59 then (bif Nat.beq o 58 then 9 else 0) else (bif Nat.blt o 60 then (bif Nat.beq o 59 then 2400 else 0) else (bif Nat.beq o 60 then 200 else 0))))) else (bif Nat.blt o 65 then (bif Nat.blt o 63 then (bif Nat.blt o 62 then (bif Nat.beq o 61 then 200 else 0) else (bif Nat.beq o 62 then 40 else 0)) else (bif Nat.blt o 64 then (bif Nat.beq o 63 then 40 else 0) else (bif Nat.beq o 64 then 9000 else 0))) else (bif Nat.blt o 67 then (bif Nat.blt o 66 then (bif Nat.beq o 65 then 8 else 0) else (bif Nat.beq o 66 then 8 else 0)) else (bif Nat.blt o 68 then (bif Nat.beq o 67 then 3 else 0) else (bif Nat.blt o 69 then (bif Nat.beq o 68 then 256 else 0) else (bif Nat.beq o 69 then 256 else 0)))))))
def S0n (L : Nat) : Nat → Nat := fun o => bif Nat.beq o 1000 then L else S0t o
def S0 (L : Nat) : vmS := (70, S0k, S0r, S0n L, 255720)
/-- two parts of the data: the class's objects, and all else -/
def mrg (d e : vmD) : vmD := (fun o f => bif Nat.blt o 42 then d.1 o f else e.1 o f, fun o f => bif Nat.blt o 42 then d.2.1 o f else e.2.1 o f, fun o f => bif Nat.blt o 42 then d.2.2.1 o f else e.2.2.1 o f, fun o f => bif Nat.blt o 42 then d.2.2.2 o f else e.2.2.2 o f)
def wC (L : Nat) (d e : vmD) : vmW := (S0 L, mrg d e)
def wR (L : Nat) (d e : vmD) : vmW := (S0 L, mrg e d)
def gF (d : vmD) (o f : Nat) : Int32 := d.1 o f
def gG (d : vmD) (o f : Nat) : Int64 := d.2.1 o f
def gA (d : vmD) (o j : Nat) : Int32 := d.2.2.1 o j
def gL (d : vmD) (o j : Nat) : Int64 := d.2.2.2 o j
def sF (d : vmD) (o f : Nat) (v : Int32) : vmD := (up2 d.1 o f v, d.2)
def sG (d : vmD) (o f : Nat) (v : Int64) : vmD := (d.1, up2 d.2.1 o f v, d.2.2)
def sA (d : vmD) (o j : Nat) (v : Int32) : vmD := (d.1, d.2.1, up2 d.2.2.1 o j v, d.2.2.2)
def sL (d : vmD) (o j : Nat) (v : Int64) : vmD := (d.1, d.2.1, d.2.2.1, up2 d.2.2.2 o j v)
def bnd {α : Type} (x : α) (K : α → Prop) : Prop := ∀ y, y = x → K y
abbrev ixOk (j : Int32) (n : Nat) : Prop := ¬ (j < 0 ∨ n ≤ j.toNatClampNeg)
theorem up_mrgC {α : Type} (f g : Nat → Nat → α) {o j : Nat} {v : α} (ho : Nat.blt o 42 = true) : up2 (fun o f' => bif Nat.blt o 42 then f o f' else g o f') o j v = fun o' f' => bif Nat.blt o' 42 then (up2 f o j v) o' f' else g o' f' := by
  funext a b
  unfold up2
  by_cases h : a = o ∧ b = j
  · obtain ⟨rfl, rfl⟩ := h
    simp only [and_self, if_true, ho, cond_true]
  · rw [if_neg h, if_neg h]
theorem up_mrgR {α : Type} (f g : Nat → Nat → α) {o j : Nat} {v : α} (ho : Nat.blt o 42 = false) : up2 (fun o f' => bif Nat.blt o 42 then f o f' else g o f') o j v = fun o' f' => bif Nat.blt o' 42 then f o' f' else (up2 g o j v) o' f' := by
  funext a b
  unfold up2
  by_cases h : a = o ∧ b = j
  · obtain ⟨rfl, rfl⟩ := h
    simp only [and_self, if_true, ho, cond_false]
  · rw [if_neg h, if_neg h]
def vmSubL : vmL → vmL → Prop
  | [], _ => True
  | q :: l, lo => vmGet lo q.1 = some q.2 ∧ vmSubL l lo
def vmSub (lo' lo : vmL) : Prop := ∀ i v, vmGet lo' i = some v → vmGet lo i = some v
theorem vmSubL_all : ∀ {l lo : vmL}, vmSubL l lo → vmSub l lo
  | [], _, _, i, v, h => by cases h
  | q :: l, lo, hs, i, v, h => by
    obtain ⟨h1, h2⟩ := hs
    unfold vmGet at h
    cases hq : Nat.beq q.1 i with
    | true =>
      rw [hq] at h
      have h : q.2 = v := by simpa using h
      rw [← Nat.eq_of_beq_eq_true hq, ← h]
      exact h1
    | false =>
      rw [hq] at h
      exact vmSubL_all h2 i v h
theorem get_filter (f : Nat → Nat → Bool) : ∀ (lo : vmL) (i : Nat) (v : Value), vmGet (lo.filter (fun q => f q.1 q.2.category)) i = some v → vmGet lo i = some v → f i v.category = true
  | [], _, _, h, _ => by cases h
  | q :: lo, i, v, h, h2 => by
    unfold vmGet at h2
    cases hq : Nat.beq q.1 i with
    | true =>
      rw [hq] at h2
      have h2 : q.2 = v := by simpa using h2
      have hi := Nat.eq_of_beq_eq_true hq
      cases hf : f q.1 q.2.category with
      | true => rw [← hi, ← h2]; exact hf
      | false =>
        have hm := vmGet_mem h
        have := (List.mem_filter.mp hm).2
        exact this
    | false =>
      rw [hq] at h2
      have h2 : vmGet lo i = some v := h2
      cases hf : f q.1 q.2.category with
      | true =>
        rw [List.filter_cons_of_pos (by exact hf)] at h
        unfold vmGet at h
        rw [hq] at h
        exact get_filter f lo i v h h2
      | false =>
        rw [List.filter_cons_of_neg (by rw [hf]; exact Bool.false_ne_true)] at h
        exact get_filter f lo i v h h2
theorem filter_get (f : Nat → Nat → Bool) : ∀ (lo : vmL) (i : Nat) (v : Value), vmGet lo i = some v → f i v.category = true → vmGet (lo.filter (fun q => f q.1 q.2.category)) i = some v
  | [], _, _, h, _ => by cases h
  | q :: lo, i, v, h, hf => by
    unfold vmGet at h
    cases hq : Nat.beq q.1 i with
    | true =>
      rw [hq] at h
      have h : q.2 = v := by simpa using h
      have hi := Nat.eq_of_beq_eq_true hq
      rw [List.filter_cons_of_pos (by show f q.1 q.2.category = true; rw [hi, h]; exact hf)]
      unfold vmGet
      rw [hq, h]
      rfl
    | false =>
      rw [hq] at h
      have h : vmGet lo i = some v := h
      have ih := filter_get f lo i v h hf
      cases hg : f q.1 q.2.category with
      | true =>
        rw [List.filter_cons_of_pos (by exact hg)]
        unfold vmGet
        rw [hq]
        exact ih
      | false =>
        rw [List.filter_cons_of_neg (by rw [hg]; exact Bool.false_ne_true)]
        exact ih
/-- the first of a place in a filtered list was the first in the list, where it is so in a part: what a store does to two lists -/
theorem sub_store (f : Nat → Nat → Bool) {lo' lo : vmL} (hd : (lo'.map (fun q => q.1)).Nodup) (h : vmSub lo' lo) (i : Nat) (v : Value) : vmSub ((i, v) :: lo'.filter (fun q => f q.1 q.2.category)) ((i, v) :: lo.filter (fun q => f q.1 q.2.category)) := by
  intro j u hj
  unfold vmGet at hj ⊢
  cases hq : Nat.beq (i, v).1 j with
  | true => rw [hq] at hj; exact hj
  | false =>
    rw [hq] at hj
    have hj : vmGet (lo'.filter (fun q => f q.1 q.2.category)) j = some u := hj
    have hm := List.mem_filter.mp (vmGet_mem hj)
    have hg : vmGet lo' j = some u := by
      have key : ∀ (l : vmL), (l.map (fun q => q.1)).Nodup → (j, u) ∈ l → vmGet l j = some u := by
        intro l
        induction l with
        | nil => intro _ h; cases h
        | cons q l ih =>
          intro hn hm
          unfold vmGet
          rw [List.map_cons, List.nodup_cons] at hn
          rcases List.mem_cons.mp hm with e | hm2
          · subst e
            rw [show Nat.beq (j, u).1 j = true from Nat.beq_refl j]
            rfl
          · have : Nat.beq q.1 j = false := by
              rw [← Bool.not_eq_true]
              intro e
              exact hn.1 (by rw [Nat.eq_of_beq_eq_true e]; exact List.mem_map.mpr ⟨(j, u), hm2, rfl⟩)
            rw [this]
            exact ih hn.2 hm2
      exact key lo' hd hm.1
    exact filter_get f lo j u (h j u hg) hm.2
def ndl (lo : vmL) : Prop := (lo.map (fun q => q.1)).Nodup
theorem ndl_store (f : Nat → Nat → Bool) {lo : vmL} (hd : ndl lo) (i : Nat) (v : Value) (hf : ∀ c, f i c = false) : ndl ((i, v) :: lo.filter (fun q => f q.1 q.2.category)) := by
  unfold ndl at hd ⊢
  rw [List.map_cons, List.nodup_cons]
  refine ⟨?_, ?_⟩
  · intro h
    obtain ⟨q, hq, he⟩ := List.mem_map.mp h
    have h2 := (List.mem_filter.mp hq).2
    rw [he, hf] at h2
    cases h2
  · exact (List.filter_sublist.map _).nodup hd

