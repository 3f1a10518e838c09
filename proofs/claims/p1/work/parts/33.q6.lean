theorem m1 (m : Nat) : nI (m + 1) - 1 = nI m := by rw [nI_succ, Int32.add_sub_cancel]
theorem m1' (m : Nat) : nI m + -1 = nI m - 1 := by rw [Int32.sub_eq_add_neg]
theorem X_hands {v : V11} {p1 : Int32} (h : v.1.2.2.2.2.2.2.2.2.1 = 0) : ∀ (m : Nat), m < 2 ^ 31 → ∀ (n : Nat), m < n → fb_X11_hand_20 n v p1 0 (nI m - 1) = some (0, v) := by
  intro m
  induction m with
  | zero =>
    intro _ n hn
    obtain ⟨n, rfl⟩ : ∃ j, n = j + 1 := ⟨n - 1, by omega⟩
    show fl_X11_hand_20 _ v p1 0 (nI 0 - 1) = _
    unfold fl_X11_hand_20
    rw [if_pos (by decide)]
  | succ m ih =>
    intro hm n hn
    obtain ⟨n, rfl⟩ : ∃ j, n = j + 1 := ⟨n - 1, by omega⟩
    rw [m1]
    show fl_X11_hand_20 _ v p1 0 (nI m) = _
    unfold fl_X11_hand_20
    rw [if_neg (nI_pos (by omega)), X_hear h, b2s, if_pos rfl, b0s, m1']
    exact ih (by omega) n (by omega)
theorem M_hands {w : V12} {p1 : Int32} (h : w.2.1 25 = 0) : ∀ (m : Nat), m < 2 ^ 31 → ∀ (n : Nat), m < n → fb_X12_hand_28 n w p1 0 (nI m - 1) = some (0, w) := by
  intro m
  induction m with
  | zero =>
    intro _ n hn
    obtain ⟨n, rfl⟩ : ∃ j, n = j + 1 := ⟨n - 1, by omega⟩
    show fl_X12_hand_28 _ w p1 0 (nI 0 - 1) = _
    unfold fl_X12_hand_28
    rw [if_pos (by decide)]
  | succ m ih =>
    intro hm n hn
    obtain ⟨n, rfl⟩ : ∃ j, n = j + 1 := ⟨n - 1, by omega⟩
    rw [m1]
    show fl_X12_hand_28 _ w p1 0 (nI m) = _
    unfold fl_X12_hand_28
    rw [if_neg (nI_pos (by omega)), M_hears h, b2s, if_pos rfl, b0s, b0s, m1']
    exact ih (by omega) n (by omega)
theorem g6 (xs : Nat → Int32) (v : V11) (w : V12) (x0 : v.1.2.2.2.2.2.2.2.2.1 = 0) (m25 : w.2.1 25 = 0) (lay1 : ∃ u, f_X12_laysLimits (0, w.2) = some u) : fk_6 xs v w (fun _ => 0) = some () := by
  unfold fk_6
  generalize xs ((0 : Int32) + (1 : Int32)).toNatClampNeg = z
  generalize xs ((0 : Int32) + (2 : Int32)).toNatClampNeg = p
  by_cases h : p < 1 ∨ 32 < p
  · refine both2 (-1) ?_ ?_
    · unfold f_X11_hand
      by_cases h1 : p < 1
      · rw [if_pos h1]; exact ⟨_, rfl⟩
      · rw [if_neg h1, if_neg (Int32.not_le.mpr (h.resolve_left h1))]; exact ⟨_, rfl⟩
    · unfold f_X12_hand
      rw [in_no h]; exact ⟨_, rfl⟩
  · have h1 : ¬ p < 1 := fun q => h (Or.inl q)
    have h2 : ¬ 32 < p := fun q => h (Or.inr q)
    obtain ⟨N, hN, -, rfl⟩ := nI_of400 (A := 1) (B := 32) rfl rfl (by decide) (by decide) h1 h2
    refine both2 0 ?_ ?_
    · unfold f_X11_hand
      rw [if_neg h1, if_pos (Int32.not_lt.mp h2), b0s, X_hands x0 N (by omega) FU (FU_gt (by omega))]
      exact ⟨_, rfl⟩
    · unfold f_X12_hand
      obtain ⟨u, hu⟩ := lay1
      have hua := M_laysZ hu
      have h25 : u.2.1 25 = 0 := by rw [hua]; exact m25
      rw [in_yes h1 h2, b1s, if_neg (by decide), hu, b1s, b0s, M_hands h25 N (by omega) FU (FU_gt (by omega))]
      exact ⟨_, rfl⟩
theorem q6 (xs : Nat → Int32) : fk_6 xs vX vM (fun _ => 0) = some () := g6 xs vX vM x0 m25 lay1
