theorem fsw_of (xs : Nat → Int32) (v : V11) (w : V12) (z : Nat → Int64) (h0 : fk_0 xs v w z = some ()) (h1 : fk_1 xs v w z = some ()) (h2 : fk_2 xs v w z = some ()) (h3 : fk_3 xs v w z = some ()) (h4 : fk_4 xs v w z = some ()) (h5 : fk_5 xs v w z = some ()) (h6 : fk_6 xs v w z = some ()) (h7 : fk_7 xs v w z = some ()) (h8 : fk_8 xs v w z = some ()) (h9 : fk_9 xs v w z = some ()) (h10 : fk_10 xs v w z = some ()) (h11 : fk_11 xs v w z = some ()) (h12 : fk_12 xs v w z = some ()) (h13 : fk_13 xs v w z = some ()) (h14 : fk_14 xs v w z = some ()) (h15 : fk_15 xs v w z = some ()) (h16 : fk_16 xs v w z = some ()) (h17 : fk_17 xs v w z = some ()) (h18 : fk_18 xs v w z = some ()) (h19 : fk_19 xs v w z = some ()) (h20 : fk_20 xs v w z = some ()) (h21 : fk_21 xs v w z = some ()) (h22 : fk_22 xs v w z = some ()) (h23 : fk_23 xs v w z = some ()) (h24 : fk_24 xs v w z = some ()) (h25 : fk_25 xs v w z = some ()) (h26 : fk_26 xs v w z = some ()) (h27 : fk_27 xs v w z = some ()) (h28 : fk_28 xs v w z = some ()) (h29 : fk_29 xs v w z = some ()) : fsw xs v w z = some () := by
  unfold fsw
  by_cases g0 : xs 0 &&& 31 = 0
  · rw [if_pos g0]; exact h0
  rw [if_neg g0]
  by_cases g1 : xs 0 &&& 31 = 1
  · rw [if_pos g1]; exact h1
  rw [if_neg g1]
  by_cases g2 : xs 0 &&& 31 = 2
  · rw [if_pos g2]; exact h2
  rw [if_neg g2]
  by_cases g3 : xs 0 &&& 31 = 3
  · rw [if_pos g3]; exact h3
  rw [if_neg g3]
  by_cases g4 : xs 0 &&& 31 = 4
  · rw [if_pos g4]; exact h4
  rw [if_neg g4]
  by_cases g5 : xs 0 &&& 31 = 5
  · rw [if_pos g5]; exact h5
  rw [if_neg g5]
  by_cases g6 : xs 0 &&& 31 = 6
  · rw [if_pos g6]; exact h6
  rw [if_neg g6]
  by_cases g7 : xs 0 &&& 31 = 7
  · rw [if_pos g7]; exact h7
  rw [if_neg g7]
  by_cases g8 : xs 0 &&& 31 = 8
  · rw [if_pos g8]; exact h8
  rw [if_neg g8]
  by_cases g9 : xs 0 &&& 31 = 9
  · rw [if_pos g9]; exact h9
  rw [if_neg g9]
  by_cases g10 : xs 0 &&& 31 = 10
  · rw [if_pos g10]; exact h10
  rw [if_neg g10]
  by_cases g11 : xs 0 &&& 31 = 11
  · rw [if_pos g11]; exact h11
  rw [if_neg g11]
  by_cases g12 : xs 0 &&& 31 = 12
  · rw [if_pos g12]; exact h12
  rw [if_neg g12]
  by_cases g13 : xs 0 &&& 31 = 13
  · rw [if_pos g13]; exact h13
  rw [if_neg g13]
  by_cases g14 : xs 0 &&& 31 = 14
  · rw [if_pos g14]; exact h14
  rw [if_neg g14]
  by_cases g15 : xs 0 &&& 31 = 15
  · rw [if_pos g15]; exact h15
  rw [if_neg g15]
  by_cases g16 : xs 0 &&& 31 = 16
  · rw [if_pos g16]; exact h16
  rw [if_neg g16]
  by_cases g17 : xs 0 &&& 31 = 17
  · rw [if_pos g17]; exact h17
  rw [if_neg g17]
  by_cases g18 : xs 0 &&& 31 = 18
  · rw [if_pos g18]; exact h18
  rw [if_neg g18]
  by_cases g19 : xs 0 &&& 31 = 19
  · rw [if_pos g19]; exact h19
  rw [if_neg g19]
  by_cases g20 : xs 0 &&& 31 = 20
  · rw [if_pos g20]; exact h20
  rw [if_neg g20]
  by_cases g21 : xs 0 &&& 31 = 21
  · rw [if_pos g21]; exact h21
  rw [if_neg g21]
  by_cases g22 : xs 0 &&& 31 = 22
  · rw [if_pos g22]; exact h22
  rw [if_neg g22]
  by_cases g23 : xs 0 &&& 31 = 23
  · rw [if_pos g23]; exact h23
  rw [if_neg g23]
  by_cases g24 : xs 0 &&& 31 = 24
  · rw [if_pos g24]; exact h24
  rw [if_neg g24]
  by_cases g25 : xs 0 &&& 31 = 25
  · rw [if_pos g25]; exact h25
  rw [if_neg g25]
  by_cases g26 : xs 0 &&& 31 = 26
  · rw [if_pos g26]; exact h26
  rw [if_neg g26]
  by_cases g27 : xs 0 &&& 31 = 27
  · rw [if_pos g27]; exact h27
  rw [if_neg g27]
  by_cases g28 : xs 0 &&& 31 = 28
  · rw [if_pos g28]; exact h28
  rw [if_neg g28]
  by_cases g29 : xs 0 &&& 31 = 29
  · rw [if_pos g29]; exact h29
  rw [if_neg g29]
theorem f_law_of {L : Nat} {xs : Nat → Int32} {v : V11} {w : V12} (e1 : f_X11_init = some v) (e2 : f_X12_init = some w) (h : fsw xs v w (fun _ => 0) = some ()) : f_law L xs = some () := by
  unfold f_law
  rw [e1, e2]
  show (if L < 4 then some () else fsw xs v w (fun _ => 0)) = some ()
  rw [h]
  exact ite_self _
theorem eX : f_X11_init = some vX := by
  unfold vX
  rw [Option.some_get]
theorem eM : f_X12_init = some vM := by
  unfold vM
  rw [Option.some_get]
theorem law_pure (L : Nat) (xs : Nat → Int32) : f_law L xs = some () := f_law_of eX eM (fsw_of xs vX vM _ (q0 xs) (q1 xs) (q2 xs) (q3 xs) (q4 xs) (q5 xs) (q6 xs) (q7 xs) (q8 xs) (q9 xs) (q10 xs) (q11 xs) (q12 xs) (q13 xs) (q14 xs) (q15 xs) (q16 xs) (q17 xs) (q18 xs) (q19 xs) (q20 xs) (q21 xs) (q22 xs) (q23 xs) (q24 xs) (q25 xs) (q26 xs) (q27 xs) (q28 xs) (q29 xs))
