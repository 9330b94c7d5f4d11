/-! the data's checks: decode and code words -/
set_option maxRecDepth 1000000 in
theorem okP_296_2 : (List.range' 424 95).all (fun pc => ckD 296 pc) = true := by decide +kernel
set_option maxRecDepth 1000000 in
theorem okP_296_3 : (List.range' 519 80).all (fun pc => ckD 296 pc) = true := by decide +kernel
set_option maxRecDepth 1000000 in
theorem okP_296_4 : (List.range' 599 33).all (fun pc => ckD 296 pc) = true := by decide +kernel
set_option maxRecDepth 1000000 in
theorem okC_296 : (Nat.beq 296 406 || ckK 296) = true := by decide +kernel
theorem okG_35 : (List.range' 296 1).all (fun k => (List.range (mLen k)).all (fun pc => ckD k pc) && (Nat.beq k 406 || ckK k)) = true := by
  refine okBig (fun pc hpc => ?_) okC_296
  have hpc : pc < 632 := hpc
  rcases Nat.lt_or_ge pc 300 with h | h
  · exact rg okP_296_0 (by omega) (by omega)
  rcases Nat.lt_or_ge pc 424 with h | h
  · exact rg okP_296_1 (by omega) (by omega)
  rcases Nat.lt_or_ge pc 519 with h | h
  · exact rg okP_296_2 (by omega) (by omega)
  rcases Nat.lt_or_ge pc 599 with h | h
  · exact rg okP_296_3 (by omega) (by omega)
  exact rg okP_296_4 (by omega) (by omega)
set_option maxRecDepth 1000000 in
theorem okG_36 : (List.range' 297 1).all (fun k => (List.range (mLen k)).all (fun pc => ckD k pc) && (Nat.beq k 406 || ckK k)) = true := by decide +kernel
