theorem lt_tr {p a b : Int32} (h : p < a) (hab : a ≤ b) : p < b := by
  rw [i_lt] at *; rw [i_le] at hab; omega
theorem gt_tr {p a b : Int32} (h : b < p) (hab : a ≤ b) : a < p := by
  rw [i_lt] at *; rw [i_le] at hab; omega
theorem ngt {p a b : Int32} (h : b < p) (hab : a ≤ b) : ¬ p < a := by
  rw [i_lt] at *; rw [i_le] at hab; omega
theorem ngl {p a b : Int32} (h : b < p) (hab : a ≤ b) : ¬ p ≤ a := by
  rw [i_lt] at h; rw [i_le] at *; omega
theorem c1 {x y z w : Int32} (h : x = y) (hz : y = z) (hw : z = w) : x = w := h.trans (hz.trans hw)
theorem cg8 {xs ys : Nat → Int32} {v : V11} {w : V12} {z : Nat → Int64} (h : xs ((0 : Int32) + (1 : Int32)).toNatClampNeg = ys ((0 : Int32) + (1 : Int32)).toNatClampNeg) : fk_8 xs v w z = fk_8 ys v w z := by
  unfold fk_8
  rw [h]
theorem cg9 {xs ys : Nat → Int32} {v : V11} {w : V12} {z : Nat → Int64} (h : xs ((0 : Int32) + (1 : Int32)).toNatClampNeg = ys ((0 : Int32) + (1 : Int32)).toNatClampNeg) : fk_9 xs v w z = fk_9 ys v w z := by
  unfold fk_9
  rw [h]
theorem cg21 {xs ys : Nat → Int32} {v : V11} {w : V12} {z : Nat → Int64} (h : xs ((0 : Int32) + (1 : Int32)).toNatClampNeg = ys ((0 : Int32) + (1 : Int32)).toNatClampNeg) : fk_21 xs v w z = fk_21 ys v w z := by
  unfold fk_21
  rw [h]
theorem cg25 {xs ys : Nat → Int32} {v : V11} {w : V12} {z : Nat → Int64} (h : xs ((0 : Int32) + (1 : Int32)).toNatClampNeg = ys ((0 : Int32) + (1 : Int32)).toNatClampNeg) : fk_25 xs v w z = fk_25 ys v w z := by
  unfold fk_25
  rw [h]
theorem cg28 {xs ys : Nat → Int32} {v : V11} {w : V12} {z : Nat → Int64} (h : xs ((0 : Int32) + (1 : Int32)).toNatClampNeg = ys ((0 : Int32) + (1 : Int32)).toNatClampNeg) : fk_28 xs v w z = fk_28 ys v w z := by
  unfold fk_28
  rw [h]
theorem cg29 {xs ys : Nat → Int32} {v : V11} {w : V12} {z : Nat → Int64} (h : xs ((0 : Int32) + (1 : Int32)).toNatClampNeg = ys ((0 : Int32) + (1 : Int32)).toNatClampNeg) : fk_29 xs v w z = fk_29 ys v w z := by
  unfold fk_29
  rw [h]
theorem cg2 {xs ys : Nat → Int32} {v : V11} {w : V12} {z : Nat → Int64} (h : xs ((0 : Int32) + (1 : Int32)).toNatClampNeg = 0 ↔ ys ((0 : Int32) + (1 : Int32)).toNatClampNeg = 0) : fk_2 xs v w z = fk_2 ys v w z := by
  unfold fk_2
  by_cases g : xs ((0 : Int32) + (1 : Int32)).toNatClampNeg = 0
  · simp only [if_pos g, if_pos (h.mp g)]
  · simp only [if_neg g, if_neg (fun q => g (h.mpr q))]
theorem cg10 {xs ys : Nat → Int32} {v : V11} {w : V12} {z : Nat → Int64} (h1 : xs ((0 : Int32) + (1 : Int32)).toNatClampNeg = ys ((0 : Int32) + (1 : Int32)).toNatClampNeg) (h : xs ((0 : Int32) + (2 : Int32)).toNatClampNeg = 0 ↔ ys ((0 : Int32) + (2 : Int32)).toNatClampNeg = 0) : fk_10 xs v w z = fk_10 ys v w z := by
  unfold fk_10
  rw [h1]
  by_cases g : xs ((0 : Int32) + (2 : Int32)).toNatClampNeg = 0
  · simp only [if_pos g, if_pos (h.mp g)]
  · simp only [if_neg g, if_neg (fun q => g (h.mpr q))]
theorem q1 (xs : Nat → Int32) : fk_1 xs vX vM (fun _ => 0) = some () := (show fk_1 xs vX vM (fun _ => 0) = fk_1 (xg 0 0 0) vX vM (fun _ => 0) from by unfold fk_1; rfl).trans k1
theorem q3 (xs : Nat → Int32) : fk_3 xs vX vM (fun _ => 0) = some () := (show fk_3 xs vX vM (fun _ => 0) = fk_3 (xg 0 0 0) vX vM (fun _ => 0) from by unfold fk_3; rfl).trans k3
theorem q4 (xs : Nat → Int32) : fk_4 xs vX vM (fun _ => 0) = some () := (show fk_4 xs vX vM (fun _ => 0) = fk_4 (xg 0 0 0) vX vM (fun _ => 0) from by unfold fk_4; rfl).trans k4
theorem q24 (xs : Nat → Int32) : fk_24 xs vX vM (fun _ => 0) = some () := (show fk_24 xs vX vM (fun _ => 0) = fk_24 (xg 0 0 0) vX vM (fun _ => 0) from by unfold fk_24; rfl).trans k24
theorem q26 (xs : Nat → Int32) : fk_26 xs vX vM (fun _ => 0) = some () := (show fk_26 xs vX vM (fun _ => 0) = fk_26 (xg 0 0 0) vX vM (fun _ => 0) from by unfold fk_26; rfl).trans k26
theorem q27 (xs : Nat → Int32) : fk_27 xs vX vM (fun _ => 0) = some () := (show fk_27 xs vX vM (fun _ => 0) = fk_27 (xg 0 0 0) vX vM (fun _ => 0) from by unfold fk_27; rfl).trans k27
theorem q2 (xs : Nat → Int32) : fk_2 xs vX vM (fun _ => 0) = some () := by
  by_cases g : xs ((0 : Int32) + (1 : Int32)).toNatClampNeg = 0
  · exact (cg2 (ys := xg 0 0 0) ⟨fun _ => by decide, fun _ => g⟩).trans k2a
  · exact (cg2 (ys := xg 1 0 0) ⟨fun q => absurd q g, fun q => absurd q (by decide)⟩).trans k2b
theorem g7 (xs : Nat → Int32) (v : V11) (w : V12) (hx : v.1.2.2.2.2.1.1.2.2 = 0) (hm : w.2.1 43 = 0) : fk_7 xs v w (fun _ => 0) = some () := by
  unfold fk_7
  exact both2 (-1) (X_take hx) (M_take hm)
theorem q7 (xs : Nat → Int32) : fk_7 xs vX vM (fun _ => 0) = some () := g7 xs vX vM xpl m43
theorem X_hist {v : V11} {p : Int32} (h : v.1.2.2.2.2.2.1.2.2 = 0) : f_X11_history v p = some (-1) := by
  unfold f_X11_history
  rw [X_bit h]; rfl
theorem X_pool {v : V11} {p : Int32} (h : v.1.2.2.2.2.1.1.2.2 = 0) : f_X11_pool v p = some (-1) := by
  unfold f_X11_pool
  rw [X_bit h]; rfl
theorem g11 (xs : Nat → Int32) (v : V11) (w : V12) (hx : v.1.2.2.2.2.2.1.2.2 = 0) (hm : w.2.1 300 = 0) : fk_11 xs v w (fun _ => 0) = some () := by
  unfold fk_11
  exact both1 (-1) (X_hist hx) (M_hist hm)
theorem q11 (xs : Nat → Int32) : fk_11 xs vX vM (fun _ => 0) = some () := g11 xs vX vM xsz m300
theorem g12 (xs : Nat → Int32) (v : V11) (w : V12) (hx : v.1.2.2.2.2.1.1.2.2 = 0) (hm : w.2.1 43 = 0) : fk_12 xs v w (fun _ => 0) = some () := by
  unfold fk_12
  exact both1 (-1) (X_pool hx) (M_pool hm)
theorem q12 (xs : Nat → Int32) : fk_12 xs vX vM (fun _ => 0) = some () := g12 xs vX vM xpl m43
theorem g13 (xs : Nat → Int32) (v : V11) (w : V12) (hx : v.1.2.2.2.2.2.2.1.2.2 = 0) (hm : w.2.1 701 = 0) : fk_13 xs v w (fun _ => 0) = some () := by
  unfold fk_13
  by_cases g : xs ((0 : Int32) + (3 : Int32)).toNatClampNeg = 0
  · simp only [if_pos g]
    exact both1 (-1) (X_row hx) (M_row hm)
  · simp only [if_neg g]
    exact both1 (-1) (X_row hx) (M_row hm)
theorem q13 (xs : Nat → Int32) : fk_13 xs vX vM (fun _ => 0) = some () := g13 xs vX vM xrw m701
theorem g14 (xs : Nat → Int32) (v : V11) (w : V12) (hx : v.1.2.2.2.2.2.1.2.2 = 0) (hm : w.2.1 300 = 0) : fk_14 xs v w (fun _ => 0) = some () := by
  unfold fk_14
  by_cases g : xs ((0 : Int32) + (3 : Int32)).toNatClampNeg = 0
  · simp only [if_pos g]
    exact both2 (-1) (X_bound hx) (M_bound hm)
  · simp only [if_neg g]
    exact both2 (-1) (X_bound hx) (M_bound hm)
theorem q14 (xs : Nat → Int32) : fk_14 xs vX vM (fun _ => 0) = some () := g14 xs vX vM xsz m300
theorem g15 (xs : Nat → Int32) (v : V11) (w : V12) (hx : v.1.2.2.2.2.2.1.2.2 = 0) (hm : w.2.1 300 = 0) : fk_15 xs v w (fun _ => 0) = some () := by
  unfold fk_15
  exact both2 (-1) (X_holds hx) (M_holds hm)
theorem q15 (xs : Nat → Int32) : fk_15 xs vX vM (fun _ => 0) = some () := g15 xs vX vM xsz m300
theorem g16 (xs : Nat → Int32) (v : V11) (w : V12) (hx : v.1.2.2.2.2.2.1.2.2 = 0) (hm : w.2.1 300 = 0) : fk_16 xs v w (fun _ => 0) = some () := by
  unfold fk_16
  exact both2 (-1) (X_claim hx) (M_claim hm)
theorem q16 (xs : Nat → Int32) : fk_16 xs vX vM (fun _ => 0) = some () := g16 xs vX vM xsz m300
theorem g17 (xs : Nat → Int32) (v : V11) (w : V12) (hx : v.1.2.2.2.2.2.1.2.2 = 0) (hm : w.2.1 300 = 0) : fk_17 xs v w (fun _ => 0) = some () := by
  unfold fk_17
  exact both2 (-1) (X_tuple hx) (M_tuple hm)
theorem q17 (xs : Nat → Int32) : fk_17 xs vX vM (fun _ => 0) = some () := g17 xs vX vM xsz m300
theorem g18 (xs : Nat → Int32) (v : V11) (w : V12) (hx : v.1.2.2.2.2.2.1.2.2 = 0) (hm : w.2.1 300 = 0) : fk_18 xs v w (fun _ => 0) = some () := by
  unfold fk_18
  exact both2 (0) (X_spreads hx) (M_spreads hm)
theorem q18 (xs : Nat → Int32) : fk_18 xs vX vM (fun _ => 0) = some () := g18 xs vX vM xsz m300
theorem g19 (xs : Nat → Int32) (v : V11) (w : V12) (hx : v.1.2.2.2.2.2.1.2.2 = 0) (hm : w.2.1 300 = 0) : fk_19 xs v w (fun _ => 0) = some () := by
  unfold fk_19
  exact both2 (-1) (X_lag hx) (M_lag hm)
theorem q19 (xs : Nat → Int32) : fk_19 xs vX vM (fun _ => 0) = some () := g19 xs vX vM xsz m300
theorem g20 (xs : Nat → Int32) (v : V11) (w : V12) (hx : v.1.2.2.2.2.2.1.2.2 = 0) (hm : w.2.1 300 = 0) : fk_20 xs v w (fun _ => 0) = some () := by
  unfold fk_20
  exact both2 (-1) (X_echo hx) (M_echo hm)
theorem q20 (xs : Nat → Int32) : fk_20 xs vX vM (fun _ => 0) = some () := g20 xs vX vM xsz m300
theorem g22 (xs : Nat → Int32) (v : V11) (w : V12) (hx : v.1.2.2.2.2.2.1.2.2 = 0) (hm : w.2.1 300 = 0) : fk_22 xs v w (fun _ => 0) = some () := by
  unfold fk_22
  by_cases g : xs ((0 : Int32) + (2 : Int32)).toNatClampNeg = 0
  · simp only [if_pos g]
    exact both2 (-1) (X_longest hx) (M_longest hm)
  · simp only [if_neg g]
    exact both2 (-1) (X_longest hx) (M_longest hm)
theorem q22 (xs : Nat → Int32) : fk_22 xs vX vM (fun _ => 0) = some () := g22 xs vX vM xsz m300
