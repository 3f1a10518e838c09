theorem FU_gt {n : Nat} (h : n ≤ 100000) : n < FU := by unfold FU; omega
theorem ci {ρ : Type} {a N : Nat} {k : Option ρ} (h : a < N) (hN : N < 2 ^ 31) : chkin (nI a) N k = k := cl (vp_in_nI h hN)
/-! class: while OFF nothing is heard -/
theorem X_hear {v : V10} {p : Int32} (h : v.2.2.2.2.2.2.2.2.1 = 0) : f_X10_hear v p = some (0, v) := by
  unfold f_X10_hear
  rw [if_pos h]
theorem X_below (v : V8) : ∃ r, f_X8_belowSixteen v = some (r, (v.1 * 1103515245 + 12345, v.2)) := by
  unfold f_X8_belowSixteen
  rw [b0s]
  unfold chknz
  rw [if_neg (by decide)]
  exact ⟨_, rfl⟩
theorem X_value (v : V7) (k : Nat) (hk : k < 9) : f_X7_valueOf v (nI k) = some (v.1 k) := by
  unfold f_X7_valueOf
  rw [if_neg (nI_pos (by omega)), if_pos (show nI k < (9 : Int32) from nI_lt (b := 9) hk (by decide)), ci hk (by decide), nI_clamp (by omega)]
theorem X_stuck0 {v : V7} {p q : Int32} (h : v.2.2.2.2 = 0) : f_X7_stuckAt v p q = some q := by
  unfold f_X7_stuckAt
  rw [h]
  show fb_X7_stuckAt_11 v FU p q (jmin 0 4 - 1) = some q
  have e : (jmin 0 4 - 1 : Int32) = -1 := by decide
  rw [e]
  obtain ⟨m, hm⟩ : ∃ m, FU = m + 1 := ⟨FU - 1, rfl⟩
  rw [hm]
  show fl_X7_stuckAt_11 v _ p q (-1) = some q
  unfold fl_X7_stuckAt_11
  rw [if_pos (by decide)]
theorem X_next {u : V8} {v : V7} (h : v.2.2.2.2 = 0) : ∃ r u', f_X8_next u v = some (r, u') ∧ u'.2.1 = u.2.1 + 1 := by
  have tailn : ∀ (w : V8) (x : Int32), fc_X8_next_37 v w x = some (x, (w.1, w.2.1 + 1, x)) := by
    intro w x
    unfold fc_X8_next_37
    rw [X_stuck0 h]
    rfl
  unfold f_X8_next
  obtain ⟨r1, e1⟩ := X_below u
  rw [e1]
  rw [b2s, show f_X7_valueOf v 7 = some (v.1 7) from X_value v 7 (by decide), b1s]
  by_cases h1 : r1 < v.1 7
  · rw [if_pos h1, tailn]
    exact ⟨_, _, rfl, rfl⟩
  · rw [if_neg h1]
    obtain ⟨r2, e2⟩ := X_below (u.1 * 1103515245 + 12345, u.2)
    rw [e2]
    rw [b2s, show f_X7_valueOf v 6 = some (v.1 6) from X_value v 6 (by decide), b1s]
    by_cases h2 : v.1 6 ≤ r2
    · rw [if_pos h2]
      unfold fc_X8_next_36
      rw [tailn]
      exact ⟨_, _, rfl, rfl⟩
    · rw [if_neg h2]
      unfold fc_X8_next_36
      rw [tailn]
      exact ⟨_, _, rfl, rfl⟩
theorem X_draws {N : Nat} (hN : N < 2 ^ 31) : ∀ (m k : Nat), k + m = N → ∀ (n : Nat), m < n → ∀ (v : V10) (x2 : Int32), v.2.2.2.2.2.2.2.2.1 = 0 → v.1.2.2.2.2 = 0 → ∃ u, fb_X10_drawMany_4 n v (nI N) x2 (nI k) = some (x2, (v.1, v.2.1, u, v.2.2.2)) ∧ u.2.1 = v.2.2.1.2.1 + nI m := by
  intro m
  induction m with
  | zero =>
    intro k hk n hn v x2 h0 h1
    obtain ⟨n, rfl⟩ : ∃ j, n = j + 1 := ⟨n - 1, by omega⟩
    refine ⟨v.2.2.1, ?_, (Int32.add_zero _).symm⟩
    show fl_X10_drawMany_4 _ v (nI N) x2 (nI k) = _
    unfold fl_X10_drawMany_4
    rw [if_pos (nI_le (by omega) (by omega))]
  | succ m ih =>
    intro k hk n hn v x2 h0 h1
    obtain ⟨n, rfl⟩ : ∃ j, n = j + 1 := ⟨n - 1, by omega⟩
    obtain ⟨r, u, e1, e2⟩ := X_next (u := v.2.2.1) h1
    obtain ⟨u', g1, g2⟩ := ih (k + 1) (by omega) n (by omega) (v.1, v.2.1, u, v.2.2.2) x2 h0 h1
    refine ⟨u', ?_, ?_⟩
    · show fl_X10_drawMany_4 _ v (nI N) x2 (nI k) = _
      unfold fl_X10_drawMany_4
      rw [if_neg (nI_ge (by omega) hN), e1, b2s, X_hear (by exact h0), b2s]
      show fb_X10_drawMany_4 n (v.1, v.2.1, u, v.2.2.2) (nI N) x2 (nI k + 1) = _
      rw [nI_1]
      exact g1
    · rw [g2]
      show u.2.1 + nI m = _
      rw [e2, nI_succ, Int32.add_assoc, Int32.add_comm 1]
/-! reference -/
theorem M_hears {w : V12} {p : Int32} (h : w.2.1 25 = 0) : f_X12_hears w p = some (0, w) := by
  unfold f_X12_hears
  rw [cl (by decide), if_pos (show w.2.1 ((25 : Int32)).toNatClampNeg = 0 from h)]
theorem M_drawn (w : V12) : ∃ r, f_X12_drawn w 16 = some (r, (w.1, upd w.2.1 22 (w.2.1 22 * 1103515245 + 12345), w.2.2)) := by
  unfold f_X12_drawn
  rw [cl (by decide), cl (by decide)]
  rw [b0s, cl (by decide)]
  unfold chknz
  rw [if_neg (by decide)]
  exact ⟨_, rfl⟩
theorem upd_ne {f : Nat → Int32} {k j : Nat} {x : Int32} (h : j ≠ k) : upd f k x j = f j := if_neg h
theorem upd_eq {f : Nat → Int32} {k : Nat} {x : Int32} : upd f k x k = x := if_pos rfl
theorem u9 {f : Nat → Int32} {c d : Int32} (h : f 9 = 0) : upd (upd f 22 c) 22 d 9 = 0 := (upd_ne (by decide)).trans ((upd_ne (by decide)).trans h)
theorem u23a {f : Nat → Int32} {c y : Int32} : upd (upd (upd f 22 c) 23 (upd f 22 c 23 + 1)) 24 y 23 = f 23 + 1 := by
  rw [upd_ne (by decide), upd_eq, upd_ne (by decide)]
theorem u23b {f : Nat → Int32} {c d y : Int32} : upd (upd (upd (upd f 22 c) 22 d) 23 (upd (upd f 22 c) 22 d 23 + 1)) 24 y 23 = f 23 + 1 := by
  rw [upd_ne (by decide), upd_eq, upd_ne (by decide), upd_ne (by decide)]
theorem M_sample {w : V12} (h : w.2.1 9 = 0) : ∃ r w', f_X12_sample w = some (r, w') ∧ (∀ q, q ≠ 22 → q ≠ 23 → q ≠ 24 → w'.2.1 q = w.2.1 q) ∧ w'.2.1 23 = w.2.1 23 + 1 := by
  have fin : ∀ (a : Nat → Int32) (x : Int32), a 9 = 0 → fb_X12_sample_48 FU (w.1, a, w.2.2) x 0 = some (x, (w.1, upd (upd a 23 (a 23 + 1)) 24 x, w.2.2)) := by
    intro a x ha
    obtain ⟨m, hm⟩ : ∃ m, FU = m + 1 := ⟨FU - 1, rfl⟩
    rw [hm]
    show fl_X12_sample_48 _ (w.1, a, w.2.2) x 0 = _
    unfold fl_X12_sample_48
    rw [cl (by decide), if_pos (show (w.1, a, w.2.2).2.1 ((9 : Int32)).toNatClampNeg ≤ 0 from by show a 9 ≤ 0; rw [ha]; decide), cl (by decide), cl (by decide), b0s, cl (by decide)]
    rfl
  unfold f_X12_sample
  obtain ⟨r1, e1⟩ := M_drawn w
  rw [cl (by decide), b0s, e1, b2s, cl (by decide)]
  by_cases h1 : r1 < (upd w.2.1 22 (w.2.1 22 * 1103515245 + 12345)) ((7 : Int32)).toNatClampNeg
  · rw [if_pos h1, fin _ _ (by rw [upd_ne (by decide)]; exact h)]
    refine ⟨_, _, rfl, fun q g1 g2 g3 => ?_, ?_⟩
    · exact (upd_ne g3).trans ((upd_ne g2).trans (upd_ne g1))
    · exact u23a (y := 0)
  · rw [if_neg h1]
    obtain ⟨r2, e2⟩ := M_drawn (w.1, upd w.2.1 22 (w.2.1 22 * 1103515245 + 12345), w.2.2)
    rw [e2, b2s, cl (by decide)]
    by_cases h2 : (upd (upd w.2.1 22 (w.2.1 22 * 1103515245 + 12345)) 22 ((upd w.2.1 22 (w.2.1 22 * 1103515245 + 12345)) 22 * 1103515245 + 12345)) ((6 : Int32)).toNatClampNeg ≤ r2
    · rw [if_pos h2, fin _ _ (u9 h)]
      refine ⟨_, _, rfl, fun q g1 g2 g3 => ?_, ?_⟩
      · exact (upd_ne g3).trans ((upd_ne g2).trans ((upd_ne g1).trans (upd_ne g1)))
      · exact u23b (y := 0)
    · rw [if_neg h2, fin _ _ (u9 h)]
      refine ⟨_, _, rfl, fun q g1 g2 g3 => ?_, ?_⟩
      · exact (upd_ne g3).trans ((upd_ne g2).trans ((upd_ne g1).trans (upd_ne g1)))
      · exact u23b (y := 0)
theorem M_draws {N : Nat} (hN : N < 2 ^ 31) : ∀ (m k : Nat), k + m = N → ∀ (n : Nat), m < n → ∀ (w : V12) (x2 : Int32), w.2.1 25 = 0 → w.2.1 9 = 0 → ∃ w', fb_X12_draws_8 n w (nI N) x2 (nI k) = some (x2, w') ∧ (∀ q, q ≠ 22 → q ≠ 23 → q ≠ 24 → w'.2.1 q = w.2.1 q) ∧ w'.2.1 23 = w.2.1 23 + nI m := by
  intro m
  induction m with
  | zero =>
    intro k hk n hn w x2 h0 h1
    obtain ⟨n, rfl⟩ : ∃ j, n = j + 1 := ⟨n - 1, by omega⟩
    refine ⟨w, ?_, fun _ _ _ _ => rfl, (Int32.add_zero _).symm⟩
    show fl_X12_draws_8 _ w (nI N) x2 (nI k) = _
    unfold fl_X12_draws_8
    rw [if_pos (nI_le (by omega) (by omega))]
  | succ m ih =>
    intro k hk n hn w x2 h0 h1
    obtain ⟨n, rfl⟩ : ∃ j, n = j + 1 := ⟨n - 1, by omega⟩
    obtain ⟨r, w1, e1, e2, e3⟩ := M_sample h1
    have h0' : w1.2.1 25 = 0 := by rw [e2 25 (by decide) (by decide) (by decide)]; exact h0
    have h1' : w1.2.1 9 = 0 := by rw [e2 9 (by decide) (by decide) (by decide)]; exact h1
    obtain ⟨w', g1, g2, g3⟩ := ih (k + 1) (by omega) n (by omega) w1 x2 h0' h1'
    refine ⟨w', ?_, fun q a b c => (g2 q a b c).trans (e2 q a b c), ?_⟩
    · show fl_X12_draws_8 _ w (nI N) x2 (nI k) = _
      unfold fl_X12_draws_8
      rw [if_neg (nI_ge (by omega) hN), e1, b2s, M_hears h0', b2s]
      show fb_X12_draws_8 n w1 (nI N) (x2 + 0) (nI k + 1) = _
      rw [nI_1, Int32.add_zero]
      exact g1
    · rw [g3, e3, nI_succ, Int32.add_assoc, Int32.add_comm 1]
