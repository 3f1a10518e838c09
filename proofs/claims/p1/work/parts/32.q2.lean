theorem both3 {α β : Type} {A : Option (Int64 × α)} {B : Option (Int64 × β)} (c : Int64) (h1 : ∃ v, A = some (c, v)) (h2 : ∃ w, B = some (c, w)) : (bnd2 A fun r _ => bnd2 B fun r2 _ => if r = r2 then some () else none) = some () := by
  obtain ⟨v, rfl⟩ := h1
  obtain ⟨w, rfl⟩ := h2
  show (if c = c then some () else none) = some ()
  rw [if_pos rfl]
theorem X_count {v : V11} {p : Int32} (h : p < 0 ∨ 28 < p) : f_X11_count v p = some (-1) := by
  unfold f_X11_count f_X10_countOf fc_X10_countOf_19
  rcases h with h | h
  · rw [if_pos h, if_pos (lt_tr h (by decide)), if_pos (Or.inl (lt_tr h (by decide)))]; rfl
  · rw [if_neg (ngt h (by decide)), if_pos (gt_tr h (by decide)), if_neg (ngt h (by decide))]
    unfold f_X10_countOfParts
    rw [if_pos (Or.inr h)]; rfl
theorem M_count {w : V12} {p : Int32} (h : p < 0 ∨ 28 < p) : ∃ u, f_X12_count w p = some (-1, u) := by
  unfold f_X12_count
  rw [in_no h]; exact ⟨_, rfl⟩
theorem o8 (xs : Nat → Int32) (v : V11) (w : V12) (h : xs ((0 : Int32) + (1 : Int32)).toNatClampNeg < 0 ∨ 28 < xs ((0 : Int32) + (1 : Int32)).toNatClampNeg) : fk_8 xs v w (fun _ => 0) = some () := by
  unfold fk_8
  exact both1 (-1) (X_count h) (M_count h)
theorem q8 (xs : Nat → Int32) : fk_8 xs vX vM (fun _ => 0) = some () := by
  by_cases h : xs ((0 : Int32) + (1 : Int32)).toNatClampNeg < 0 ∨ 28 < xs ((0 : Int32) + (1 : Int32)).toNatClampNeg
  · exact o8 xs vX vM h
  · obtain ⟨N, h1, h2, h3⟩ := nI_of400 (A := 0) (B := 28) rfl rfl (by decide) (by decide) (fun q => h (Or.inl q)) (fun q => h (Or.inr q))
    have hc : N = 0 ∨ N = 1 ∨ N = 2 ∨ N = 3 ∨ N = 4 ∨ N = 5 ∨ N = 6 ∨ N = 7 ∨ N = 8 ∨ N = 9 ∨ N = 10 ∨ N = 11 ∨ N = 12 ∨ N = 13 ∨ N = 14 ∨ N = 15 ∨ N = 16 ∨ N = 17 ∨ N = 18 ∨ N = 19 ∨ N = 20 ∨ N = 21 ∨ N = 22 ∨ N = 23 ∨ N = 24 ∨ N = 25 ∨ N = 26 ∨ N = 27 ∨ N = 28 := by omega
    rcases hc with rfl | rfl | rfl | rfl | rfl | rfl | rfl | rfl | rfl | rfl | rfl | rfl | rfl | rfl | rfl | rfl | rfl | rfl | rfl | rfl | rfl | rfl | rfl | rfl | rfl | rfl | rfl | rfl | rfl
    · exact (cg8 (ys := xg 0 0 0) (h3.trans rfl)).trans k8_0
    · exact (cg8 (ys := xg 1 0 0) (h3.trans rfl)).trans k8_1
    · exact (cg8 (ys := xg 2 0 0) (h3.trans rfl)).trans k8_2
    · exact (cg8 (ys := xg 3 0 0) (h3.trans rfl)).trans k8_3
    · exact (cg8 (ys := xg 4 0 0) (h3.trans rfl)).trans k8_4
    · exact (cg8 (ys := xg 5 0 0) (h3.trans rfl)).trans k8_5
    · exact (cg8 (ys := xg 6 0 0) (h3.trans rfl)).trans k8_6
    · exact (cg8 (ys := xg 7 0 0) (h3.trans rfl)).trans k8_7
    · exact (cg8 (ys := xg 8 0 0) (h3.trans rfl)).trans k8_8
    · exact (cg8 (ys := xg 9 0 0) (h3.trans rfl)).trans k8_9
    · exact (cg8 (ys := xg 10 0 0) (h3.trans rfl)).trans k8_10
    · exact (cg8 (ys := xg 11 0 0) (h3.trans rfl)).trans k8_11
    · exact (cg8 (ys := xg 12 0 0) (h3.trans rfl)).trans k8_12
    · exact (cg8 (ys := xg 13 0 0) (h3.trans rfl)).trans k8_13
    · exact (cg8 (ys := xg 14 0 0) (h3.trans rfl)).trans k8_14
    · exact (cg8 (ys := xg 15 0 0) (h3.trans rfl)).trans k8_15
    · exact (cg8 (ys := xg 16 0 0) (h3.trans rfl)).trans k8_16
    · exact (cg8 (ys := xg 17 0 0) (h3.trans rfl)).trans k8_17
    · exact (cg8 (ys := xg 18 0 0) (h3.trans rfl)).trans k8_18
    · exact (cg8 (ys := xg 19 0 0) (h3.trans rfl)).trans k8_19
    · exact (cg8 (ys := xg 20 0 0) (h3.trans rfl)).trans k8_20
    · exact (cg8 (ys := xg 21 0 0) (h3.trans rfl)).trans k8_21
    · exact (cg8 (ys := xg 22 0 0) (h3.trans rfl)).trans k8_22
    · exact (cg8 (ys := xg 23 0 0) (h3.trans rfl)).trans k8_23
    · exact (cg8 (ys := xg 24 0 0) (h3.trans rfl)).trans k8_24
    · exact (cg8 (ys := xg 25 0 0) (h3.trans rfl)).trans k8_25
    · exact (cg8 (ys := xg 26 0 0) (h3.trans rfl)).trans k8_26
    · exact (cg8 (ys := xg 27 0 0) (h3.trans rfl)).trans k8_27
    · exact (cg8 (ys := xg 28 0 0) (h3.trans rfl)).trans k8_28
theorem o21 (xs : Nat → Int32) (v : V11) (w : V12) (h : xs ((0 : Int32) + (1 : Int32)).toNatClampNeg < 0 ∨ 4 < xs ((0 : Int32) + (1 : Int32)).toNatClampNeg) : fk_21 xs v w (fun _ => 0) = some () := by
  unfold fk_21
  refine both2 (-1) ?_ ?_
  · unfold f_X11_compared
    rw [if_pos h]; exact ⟨_, rfl⟩
  · unfold f_X12_compared
    rw [in_no h]; exact ⟨_, rfl⟩
theorem q21 (xs : Nat → Int32) : fk_21 xs vX vM (fun _ => 0) = some () := by
  by_cases h : xs ((0 : Int32) + (1 : Int32)).toNatClampNeg < 0 ∨ 4 < xs ((0 : Int32) + (1 : Int32)).toNatClampNeg
  · exact o21 xs vX vM h
  · obtain ⟨N, h1, h2, h3⟩ := nI_of400 (A := 0) (B := 4) rfl rfl (by decide) (by decide) (fun q => h (Or.inl q)) (fun q => h (Or.inr q))
    have hc : N = 0 ∨ N = 1 ∨ N = 2 ∨ N = 3 ∨ N = 4 := by omega
    rcases hc with rfl | rfl | rfl | rfl | rfl
    · exact (cg21 (ys := xg 0 0 0) (h3.trans rfl)).trans k21_0
    · exact (cg21 (ys := xg 1 0 0) (h3.trans rfl)).trans k21_1
    · exact (cg21 (ys := xg 2 0 0) (h3.trans rfl)).trans k21_2
    · exact (cg21 (ys := xg 3 0 0) (h3.trans rfl)).trans k21_3
    · exact (cg21 (ys := xg 4 0 0) (h3.trans rfl)).trans k21_4
theorem o25 (xs : Nat → Int32) (v : V11) (w : V12) (h : xs ((0 : Int32) + (1 : Int32)).toNatClampNeg < 8 ∨ 15 < xs ((0 : Int32) + (1 : Int32)).toNatClampNeg) : fk_25 xs v w (fun _ => 0) = some () := by
  unfold fk_25
  have eL : stL ((0 : Int32)).toNatClampNeg = 8 := by decide +kernel
  have eM : stM ((0 : Int32)).toNatClampNeg = 15 := by decide +kernel
  refine both2 (-1) ?_ ?_
  · unfold f_X11_replayed
    rw [cl (by decide), eL]
    by_cases h1 : xs ((0 : Int32) + (1 : Int32)).toNatClampNeg < 8
    · rw [if_pos h1]; exact ⟨_, rfl⟩
    · rw [if_neg h1, cl (by decide), eM, if_neg (ngl (h.resolve_left h1) (by decide))]; exact ⟨_, rfl⟩
  · unfold f_X12_replayed
    rw [in_no h]; exact ⟨_, rfl⟩
theorem q25 (xs : Nat → Int32) : fk_25 xs vX vM (fun _ => 0) = some () := by
  by_cases h : xs ((0 : Int32) + (1 : Int32)).toNatClampNeg < 8 ∨ 15 < xs ((0 : Int32) + (1 : Int32)).toNatClampNeg
  · exact o25 xs vX vM h
  · obtain ⟨N, h1, h2, h3⟩ := nI_of400 (A := 8) (B := 15) rfl rfl (by decide) (by decide) (fun q => h (Or.inl q)) (fun q => h (Or.inr q))
    have hc : N = 8 ∨ N = 9 ∨ N = 10 ∨ N = 11 ∨ N = 12 ∨ N = 13 ∨ N = 14 ∨ N = 15 := by omega
    rcases hc with rfl | rfl | rfl | rfl | rfl | rfl | rfl | rfl
    · exact (cg25 (ys := xg 8 0 0) (h3.trans rfl)).trans k25_8
    · exact (cg25 (ys := xg 9 0 0) (h3.trans rfl)).trans k25_9
    · exact (cg25 (ys := xg 10 0 0) (h3.trans rfl)).trans k25_10
    · exact (cg25 (ys := xg 11 0 0) (h3.trans rfl)).trans k25_11
    · exact (cg25 (ys := xg 12 0 0) (h3.trans rfl)).trans k25_12
    · exact (cg25 (ys := xg 13 0 0) (h3.trans rfl)).trans k25_13
    · exact (cg25 (ys := xg 14 0 0) (h3.trans rfl)).trans k25_14
    · exact (cg25 (ys := xg 15 0 0) (h3.trans rfl)).trans k25_15
theorem o28 (xs : Nat → Int32) (v : V11) (w : V12) (h : xs ((0 : Int32) + (1 : Int32)).toNatClampNeg < 0 ∨ 2 < xs ((0 : Int32) + (1 : Int32)).toNatClampNeg) : fk_28 xs v w (fun _ => 0) = some () := by
  unfold fk_28
  refine both1 0 ?_ ?_
  · unfold f_X11_image
    by_cases h1 : xs ((0 : Int32) + (1 : Int32)).toNatClampNeg < 0
    · rw [if_pos h1]
    · rw [if_neg h1, if_neg (show ¬ xs ((0 : Int32) + (1 : Int32)).toNatClampNeg < 3 from by
        have h2 := h.resolve_left h1
        rw [i_lt] at *
        have e3 : (3 : Int32).toInt = 3 := rfl
        have e2 : (2 : Int32).toInt = 2 := rfl
        omega)]
  · unfold f_X12_image
    rw [in_no h]; exact ⟨_, rfl⟩
theorem q28 (xs : Nat → Int32) : fk_28 xs vX vM (fun _ => 0) = some () := by
  by_cases h : xs ((0 : Int32) + (1 : Int32)).toNatClampNeg < 0 ∨ 2 < xs ((0 : Int32) + (1 : Int32)).toNatClampNeg
  · exact o28 xs vX vM h
  · obtain ⟨N, h1, h2, h3⟩ := nI_of400 (A := 0) (B := 2) rfl rfl (by decide) (by decide) (fun q => h (Or.inl q)) (fun q => h (Or.inr q))
    have hc : N = 0 ∨ N = 1 ∨ N = 2 := by omega
    rcases hc with rfl | rfl | rfl
    · exact (cg28 (ys := xg 0 0 0) (h3.trans rfl)).trans k28_0
    · exact (cg28 (ys := xg 1 0 0) (h3.trans rfl)).trans k28_1
    · exact (cg28 (ys := xg 2 0 0) (h3.trans rfl)).trans k28_2
set_option maxRecDepth 100000 in
theorem k29_0 : fk_29 (xg 0 0 0) vX vM (fun _ => 0) = some () := by decide +kernel
set_option maxRecDepth 100000 in
theorem k29_1 : fk_29 (xg 1 0 0) vX vM (fun _ => 0) = some () := by decide +kernel
set_option maxRecDepth 100000 in
theorem k29_2 : fk_29 (xg 2 0 0) vX vM (fun _ => 0) = some () := by decide +kernel
theorem o29 (xs : Nat → Int32) (v : V11) (w : V12) (h : xs ((0 : Int32) + (1 : Int32)).toNatClampNeg < 0 ∨ 2 < xs ((0 : Int32) + (1 : Int32)).toNatClampNeg) : fk_29 xs v w (fun _ => 0) = some () := by
  unfold fk_29
  refine both1 0 ?_ ?_
  · unfold f_X11_again
    by_cases h1 : xs ((0 : Int32) + (1 : Int32)).toNatClampNeg < 0
    · rw [if_pos h1]
    · rw [if_neg h1, if_pos (show 3 ≤ xs ((0 : Int32) + (1 : Int32)).toNatClampNeg from by
        have h2 := h.resolve_left h1
        rw [i_lt] at *
        rw [i_le]
        have e3 : (3 : Int32).toInt = 3 := rfl
        have e2 : (2 : Int32).toInt = 2 := rfl
        omega)]
  · unfold f_X12_again
    rw [in_no h]; exact ⟨_, rfl⟩
theorem q29 (xs : Nat → Int32) : fk_29 xs vX vM (fun _ => 0) = some () := by
  by_cases h : xs ((0 : Int32) + (1 : Int32)).toNatClampNeg < 0 ∨ 2 < xs ((0 : Int32) + (1 : Int32)).toNatClampNeg
  · exact o29 xs vX vM h
  · obtain ⟨N, h1, h2, h3⟩ := nI_of400 (A := 0) (B := 2) rfl rfl (by decide) (by decide) (fun q => h (Or.inl q)) (fun q => h (Or.inr q))
    have hc : N = 0 ∨ N = 1 ∨ N = 2 := by omega
    rcases hc with rfl | rfl | rfl
    · exact (cg29 (ys := xg 0 0 0) (h3.trans rfl)).trans k29_0
    · exact (cg29 (ys := xg 1 0 0) (h3.trans rfl)).trans k29_1
    · exact (cg29 (ys := xg 2 0 0) (h3.trans rfl)).trans k29_2
theorem o9 (xs : Nat → Int32) (v : V11) (w : V12) (h : xs ((0 : Int32) + (1 : Int32)).toNatClampNeg < 0 ∨ 4 < xs ((0 : Int32) + (1 : Int32)).toNatClampNeg) (h' : xs ((0 : Int32) + (1 : Int32)).toNatClampNeg < 11 ∨ 25 < xs ((0 : Int32) + (1 : Int32)).toNatClampNeg) : fk_9 xs v w (fun _ => 0) = some () := by
  unfold fk_9 f_L_limit
  have e1 : f_X11_limit v (xs ((0 : Int32) + (1 : Int32)).toNatClampNeg) = some (none, v) := by
    unfold f_X11_limit fc_X11_limit_21
    by_cases h1 : xs ((0 : Int32) + (1 : Int32)).toNatClampNeg ≤ 10
    · rw [if_pos h1, if_pos h]
    · rw [if_neg h1, if_pos (h'.resolve_left (fun q => h1 (by
        rw [i_lt] at q
        rw [i_le]
        have e1 : (10 : Int32).toInt = 10 := rfl
        have e2 : (11 : Int32).toInt = 11 := rfl
        omega))), if_pos h]
  have e2 : f_X12_limit w (xs ((0 : Int32) + (1 : Int32)).toNatClampNeg) = some (0, (1, w.2)) := by
    unfold f_X12_limit
    rw [in_no h, b1s, if_pos rfl, in_no h', b1s, if_pos rfl]
    unfold fc_X12_limit_26
    rw [if_neg (by decide)]
  rw [e1, e2]
  rfl
theorem q9 (xs : Nat → Int32) : fk_9 xs vX vM (fun _ => 0) = some () := by
  by_cases h : xs ((0 : Int32) + (1 : Int32)).toNatClampNeg < 0 ∨ 4 < xs ((0 : Int32) + (1 : Int32)).toNatClampNeg
  · by_cases h' : xs ((0 : Int32) + (1 : Int32)).toNatClampNeg < 11 ∨ 25 < xs ((0 : Int32) + (1 : Int32)).toNatClampNeg
    · exact o9 xs vX vM h h'
    · obtain ⟨N, h1, h2, h3⟩ := nI_of400 (A := 11) (B := 25) rfl rfl (by decide) (by decide) (fun q => h' (Or.inl q)) (fun q => h' (Or.inr q))
      have hc : N = 11 ∨ N = 12 ∨ N = 13 ∨ N = 14 ∨ N = 15 ∨ N = 16 ∨ N = 17 ∨ N = 18 ∨ N = 19 ∨ N = 20 ∨ N = 21 ∨ N = 22 ∨ N = 23 ∨ N = 24 ∨ N = 25 := by omega
      rcases hc with rfl | rfl | rfl | rfl | rfl | rfl | rfl | rfl | rfl | rfl | rfl | rfl | rfl | rfl | rfl
      · exact (cg9 (ys := xg 11 0 0) (h3.trans rfl)).trans k9_11
      · exact (cg9 (ys := xg 12 0 0) (h3.trans rfl)).trans k9_12
      · exact (cg9 (ys := xg 13 0 0) (h3.trans rfl)).trans k9_13
      · exact (cg9 (ys := xg 14 0 0) (h3.trans rfl)).trans k9_14
      · exact (cg9 (ys := xg 15 0 0) (h3.trans rfl)).trans k9_15
      · exact (cg9 (ys := xg 16 0 0) (h3.trans rfl)).trans k9_16
      · exact (cg9 (ys := xg 17 0 0) (h3.trans rfl)).trans k9_17
      · exact (cg9 (ys := xg 18 0 0) (h3.trans rfl)).trans k9_18
      · exact (cg9 (ys := xg 19 0 0) (h3.trans rfl)).trans k9_19
      · exact (cg9 (ys := xg 20 0 0) (h3.trans rfl)).trans k9_20
      · exact (cg9 (ys := xg 21 0 0) (h3.trans rfl)).trans k9_21
      · exact (cg9 (ys := xg 22 0 0) (h3.trans rfl)).trans k9_22
      · exact (cg9 (ys := xg 23 0 0) (h3.trans rfl)).trans k9_23
      · exact (cg9 (ys := xg 24 0 0) (h3.trans rfl)).trans k9_24
      · exact (cg9 (ys := xg 25 0 0) (h3.trans rfl)).trans k9_25
  · obtain ⟨N, h1, h2, h3⟩ := nI_of400 (A := 0) (B := 4) rfl rfl (by decide) (by decide) (fun q => h (Or.inl q)) (fun q => h (Or.inr q))
    have hc : N = 0 ∨ N = 1 ∨ N = 2 ∨ N = 3 ∨ N = 4 := by omega
    rcases hc with rfl | rfl | rfl | rfl | rfl
    · exact (cg9 (ys := xg 0 0 0) (h3.trans rfl)).trans k9_0
    · exact (cg9 (ys := xg 1 0 0) (h3.trans rfl)).trans k9_1
    · exact (cg9 (ys := xg 2 0 0) (h3.trans rfl)).trans k9_2
    · exact (cg9 (ys := xg 3 0 0) (h3.trans rfl)).trans k9_3
    · exact (cg9 (ys := xg 4 0 0) (h3.trans rfl)).trans k9_4
theorem o10 (xs : Nat → Int32) (v : V11) (w : V12) (h : xs ((0 : Int32) + (1 : Int32)).toNatClampNeg < 0 ∨ 1 < xs ((0 : Int32) + (1 : Int32)).toNatClampNeg) : fk_10 xs v w (fun _ => 0) = some () := by
  have n0 : ¬ xs ((0 : Int32) + (1 : Int32)).toNatClampNeg = 0 := by
    intro q
    rw [q] at h
    exact absurd h (by decide)
  have n1 : ¬ xs ((0 : Int32) + (1 : Int32)).toNatClampNeg = 1 := by
    intro q
    rw [q] at h
    exact absurd h (by decide)
  have hX : ∀ b, ∃ u, f_X11_odds v (xs ((0 : Int32) + (1 : Int32)).toNatClampNeg) b = some (-1, u) := by
    intro b
    unfold f_X11_odds
    rw [show f_X7_valueOf v.1.1 2 = some (v.1.1.1 2) from X_value v.1.1 2 (by decide), b1s, b0s, if_neg n0, if_neg n1]
    exact ⟨_, rfl⟩
  have hM : ∀ b, ∃ u, f_X12_odds w (xs ((0 : Int32) + (1 : Int32)).toNatClampNeg) b = some (-1, u) := by
    intro b
    unfold f_X12_odds
    rw [in_no h]; exact ⟨_, rfl⟩
  unfold fk_10
  by_cases g : xs ((0 : Int32) + (2 : Int32)).toNatClampNeg = 0
  · simp only [if_pos g]
    exact both3 (-1) (hX 0) (hM 0)
  · simp only [if_neg g]
    exact both3 (-1) (hX 1) (hM 1)
theorem q10 (xs : Nat → Int32) : fk_10 xs vX vM (fun _ => 0) = some () := by
  by_cases h : xs ((0 : Int32) + (1 : Int32)).toNatClampNeg < 0 ∨ 1 < xs ((0 : Int32) + (1 : Int32)).toNatClampNeg
  · exact o10 xs vX vM h
  · obtain ⟨N, h1, h2, h3⟩ := nI_of400 (A := 0) (B := 1) rfl rfl (by decide) (by decide) (fun q => h (Or.inl q)) (fun q => h (Or.inr q))
    have hc : N = 0 ∨ N = 1 := by omega
    by_cases g : xs ((0 : Int32) + (2 : Int32)).toNatClampNeg = 0
    · rcases hc with rfl | rfl
      · exact (cg10 (ys := xg 0 0 0) (h3.trans rfl) ⟨fun _ => by decide, fun _ => g⟩).trans k10_0_0
      · exact (cg10 (ys := xg 1 0 0) (h3.trans rfl) ⟨fun _ => by decide, fun _ => g⟩).trans k10_1_0
    · rcases hc with rfl | rfl
      · exact (cg10 (ys := xg 0 1 0) (h3.trans rfl) ⟨fun q => absurd q g, fun q => absurd q (by decide)⟩).trans k10_0_1
      · exact (cg10 (ys := xg 1 1 0) (h3.trans rfl) ⟨fun q => absurd q g, fun q => absurd q (by decide)⟩).trans k10_1_1
