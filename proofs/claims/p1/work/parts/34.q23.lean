theorem cnt_0 (w : V12) : f_X12_counted w (nI 0) = some (w.2.1 0) := rfl
theorem cnt_1 (w : V12) : f_X12_counted w (nI 1) = some (w.2.1 1) := rfl
theorem cnt_2 (w : V12) : f_X12_counted w (nI 2) = some (w.2.1 2) := rfl
theorem cnt_3 (w : V12) : f_X12_counted w (nI 3) = some (w.2.1 3) := rfl
theorem cnt_4 (w : V12) : f_X12_counted w (nI 4) = some (w.2.1 4) := rfl
theorem cnt_5 (w : V12) : f_X12_counted w (nI 5) = some (w.2.1 5) := rfl
theorem cnt_6 (w : V12) : f_X12_counted w (nI 6) = some (w.2.1 6) := rfl
theorem cnt_7 (w : V12) : f_X12_counted w (nI 7) = some (w.2.1 7) := rfl
theorem cnt_8 (w : V12) : f_X12_counted w (nI 8) = some (w.2.1 9) := rfl
theorem cnt_9 (w : V12) : f_X12_counted w (nI 9) = some (w.2.1 25) := rfl
theorem cnt_10 (w : V12) : f_X12_counted w (nI 10) = some (w.2.1 26) := rfl
theorem cnt_11 (w : V12) : f_X12_counted w (nI 11) = some (w.2.1 27) := rfl
theorem cnt_12 (w : V12) : f_X12_counted w (nI 12) = some (w.2.1 28) := rfl
theorem cnt_13 (w : V12) : f_X12_counted w (nI 13) = some (w.2.1 23) := rfl
theorem cnt_14 (w : V12) : f_X12_counted w (nI 14) = some (w.2.1 29) := rfl
theorem cnt_15 (w : V12) : f_X12_counted w (nI 15) = some (w.2.1 30) := rfl
theorem cnt_16 (w : V12) : f_X12_counted w (nI 16) = some (w.2.1 31) := rfl
theorem cnt_17 (w : V12) : f_X12_counted w (nI 17) = some (w.2.1 33) := rfl
theorem cnt_18 (w : V12) : f_X12_counted w (nI 18) = some (w.2.1 34) := rfl
theorem cnt_19 (w : V12) : f_X12_counted w (nI 19) = some (w.2.1 35) := rfl
theorem cnt_20 (w : V12) : f_X12_counted w (nI 20) = some (w.2.1 37) := rfl
theorem cnt_21 (w : V12) : f_X12_counted w (nI 21) = some (w.2.1 43) := rfl
theorem cnt_22 (w : V12) : f_X12_counted w (nI 22) = some (w.2.1 39) := rfl
theorem cnt_23 (w : V12) : f_X12_counted w (nI 23) = some (w.2.1 40) := rfl
theorem cnt_24 (w : V12) : f_X12_counted w (nI 24) = some (w.2.1 41) := rfl
theorem cnt_25 (w : V12) : f_X12_counted w (nI 25) = some (w.2.1 42) := rfl
theorem cnt_26 (w : V12) : f_X12_counted w (nI 26) = some (w.2.1 300) := rfl
theorem cnt_27 (w : V12) : f_X12_counted w (nI 27) = some (w.2.1 701) := rfl
theorem cnt_28 (w : V12) : f_X12_counted w (nI 28) = some (w.2.1 942) := rfl
theorem cnt_eq {a b : V12} (h : ∀ q, q ≠ 22 → q ≠ 23 → q ≠ 24 → q < 3780 → a.2.1 q = b.2.1 q) {i : Nat} (hi : i < 29) (h13 : i ≠ 13) : f_X12_counted a (nI i) = f_X12_counted b (nI i) := by
  have hc : i = 0 ∨ i = 1 ∨ i = 2 ∨ i = 3 ∨ i = 4 ∨ i = 5 ∨ i = 6 ∨ i = 7 ∨ i = 8 ∨ i = 9 ∨ i = 10 ∨ i = 11 ∨ i = 12 ∨ i = 14 ∨ i = 15 ∨ i = 16 ∨ i = 17 ∨ i = 18 ∨ i = 19 ∨ i = 20 ∨ i = 21 ∨ i = 22 ∨ i = 23 ∨ i = 24 ∨ i = 25 ∨ i = 26 ∨ i = 27 ∨ i = 28 := by omega
  rcases hc with rfl | rfl | rfl | rfl | rfl | rfl | rfl | rfl | rfl | rfl | rfl | rfl | rfl | rfl | rfl | rfl | rfl | rfl | rfl | rfl | rfl | rfl | rfl | rfl | rfl | rfl | rfl | rfl
  · rw [cnt_0, cnt_0, h 0 (by decide) (by decide) (by decide) (by decide)]
  · rw [cnt_1, cnt_1, h 1 (by decide) (by decide) (by decide) (by decide)]
  · rw [cnt_2, cnt_2, h 2 (by decide) (by decide) (by decide) (by decide)]
  · rw [cnt_3, cnt_3, h 3 (by decide) (by decide) (by decide) (by decide)]
  · rw [cnt_4, cnt_4, h 4 (by decide) (by decide) (by decide) (by decide)]
  · rw [cnt_5, cnt_5, h 5 (by decide) (by decide) (by decide) (by decide)]
  · rw [cnt_6, cnt_6, h 6 (by decide) (by decide) (by decide) (by decide)]
  · rw [cnt_7, cnt_7, h 7 (by decide) (by decide) (by decide) (by decide)]
  · rw [cnt_8, cnt_8, h 9 (by decide) (by decide) (by decide) (by decide)]
  · rw [cnt_9, cnt_9, h 25 (by decide) (by decide) (by decide) (by decide)]
  · rw [cnt_10, cnt_10, h 26 (by decide) (by decide) (by decide) (by decide)]
  · rw [cnt_11, cnt_11, h 27 (by decide) (by decide) (by decide) (by decide)]
  · rw [cnt_12, cnt_12, h 28 (by decide) (by decide) (by decide) (by decide)]
  · rw [cnt_14, cnt_14, h 29 (by decide) (by decide) (by decide) (by decide)]
  · rw [cnt_15, cnt_15, h 30 (by decide) (by decide) (by decide) (by decide)]
  · rw [cnt_16, cnt_16, h 31 (by decide) (by decide) (by decide) (by decide)]
  · rw [cnt_17, cnt_17, h 33 (by decide) (by decide) (by decide) (by decide)]
  · rw [cnt_18, cnt_18, h 34 (by decide) (by decide) (by decide) (by decide)]
  · rw [cnt_19, cnt_19, h 35 (by decide) (by decide) (by decide) (by decide)]
  · rw [cnt_20, cnt_20, h 37 (by decide) (by decide) (by decide) (by decide)]
  · rw [cnt_21, cnt_21, h 43 (by decide) (by decide) (by decide) (by decide)]
  · rw [cnt_22, cnt_22, h 39 (by decide) (by decide) (by decide) (by decide)]
  · rw [cnt_23, cnt_23, h 40 (by decide) (by decide) (by decide) (by decide)]
  · rw [cnt_24, cnt_24, h 41 (by decide) (by decide) (by decide) (by decide)]
  · rw [cnt_25, cnt_25, h 42 (by decide) (by decide) (by decide) (by decide)]
  · rw [cnt_26, cnt_26, h 300 (by decide) (by decide) (by decide) (by decide)]
  · rw [cnt_27, cnt_27, h 701 (by decide) (by decide) (by decide) (by decide)]
  · rw [cnt_28, cnt_28, h 942 (by decide) (by decide) (by decide) (by decide)]
theorem X_cnt {v : V10} {u : V8} {p : Int32} (h13 : ¬ p = 13) : f_X10_countOf (v.1, v.2.1, u, v.2.2.2) p = f_X10_countOf v p := by
  unfold f_X10_countOf fc_X10_countOf_19 f_X10_countOfParts
  simp only [if_neg h13]
theorem X_c13 (v : V10) : f_X10_countOf v 13 = some v.2.2.1.2.1 := rfl
set_option maxRecDepth 100000 in
theorem tC : (f_X10_copyFrom vX.2.1 vX.1).isSome = true := by decide +kernel
def vC : V10 := (f_X10_copyFrom vX.2.1 vX.1).get tC
theorem eC : f_X10_copyFrom vX.2.1 vX.1 = some vC := (Option.some_get tC).symm
set_option maxRecDepth 100000 in
theorem c0 : vC.2.2.2.2.2.2.2.2.1 = 0 := by decide +kernel
set_option maxRecDepth 100000 in
theorem cst : vC.1.2.2.2.2 = 0 := by decide +kernel
set_option maxRecDepth 100000 in
theorem cdr : vC.2.2.1.2.1 = 0 := by decide +kernel
set_option maxRecDepth 100000 in
theorem fa : ∀ i : Fin 29, i.1 ≠ 13 → f_X10_countOf vC (nI i.1) = f_X12_counted vM (nI i.1) := by decide +kernel
theorem lay2 : ∃ u, f_X12_laysLimits (0, cpf vM.2.1 0 4 0, vM.2.2) = some u := Option.isSome_iff_exists.mp tLay2
theorem M_laysY {t : Int32} {a : Nat → Int32} {w u : V12} (h : f_X12_laysLimits (t, a, w.2.2) = some u) : u.2.1 = a := by
  have e := M_lays (w := (t, a, w.2.2)) h
  exact e
theorem cpf_lo {a : Nat → Int32} {q : Nat} (h : q < 3780) : cpf a 0 4 0 q = a q := by
  unfold cpf
  rw [if_neg (by omega)]
theorem fin_i {i : Nat} (hi : i < 29) : (⟨i, hi⟩ : Fin 29).1 = i := rfl
theorem cntS {w : V12} {i : Nat} (hi : i < 29) : ∃ r, f_X12_counted w (nI i) = some r := by
  have hc : i = 0 ∨ i = 1 ∨ i = 2 ∨ i = 3 ∨ i = 4 ∨ i = 5 ∨ i = 6 ∨ i = 7 ∨ i = 8 ∨ i = 9 ∨ i = 10 ∨ i = 11 ∨ i = 12 ∨ i = 13 ∨ i = 14 ∨ i = 15 ∨ i = 16 ∨ i = 17 ∨ i = 18 ∨ i = 19 ∨ i = 20 ∨ i = 21 ∨ i = 22 ∨ i = 23 ∨ i = 24 ∨ i = 25 ∨ i = 26 ∨ i = 27 ∨ i = 28 := by omega
  rcases hc with rfl | rfl | rfl | rfl | rfl | rfl | rfl | rfl | rfl | rfl | rfl | rfl | rfl | rfl | rfl | rfl | rfl | rfl | rfl | rfl | rfl | rfl | rfl | rfl | rfl | rfl | rfl | rfl | rfl
  · exact ⟨_, cnt_0 w⟩
  · exact ⟨_, cnt_1 w⟩
  · exact ⟨_, cnt_2 w⟩
  · exact ⟨_, cnt_3 w⟩
  · exact ⟨_, cnt_4 w⟩
  · exact ⟨_, cnt_5 w⟩
  · exact ⟨_, cnt_6 w⟩
  · exact ⟨_, cnt_7 w⟩
  · exact ⟨_, cnt_8 w⟩
  · exact ⟨_, cnt_9 w⟩
  · exact ⟨_, cnt_10 w⟩
  · exact ⟨_, cnt_11 w⟩
  · exact ⟨_, cnt_12 w⟩
  · exact ⟨_, cnt_13 w⟩
  · exact ⟨_, cnt_14 w⟩
  · exact ⟨_, cnt_15 w⟩
  · exact ⟨_, cnt_16 w⟩
  · exact ⟨_, cnt_17 w⟩
  · exact ⟨_, cnt_18 w⟩
  · exact ⟨_, cnt_19 w⟩
  · exact ⟨_, cnt_20 w⟩
  · exact ⟨_, cnt_21 w⟩
  · exact ⟨_, cnt_22 w⟩
  · exact ⟨_, cnt_23 w⟩
  · exact ⟨_, cnt_24 w⟩
  · exact ⟨_, cnt_25 w⟩
  · exact ⟨_, cnt_26 w⟩
  · exact ⟨_, cnt_27 w⟩
  · exact ⟨_, cnt_28 w⟩
theorem g23 (xs : Nat → Int32) (v : V11) (w : V12) (c : V10) (eC : f_X10_copyFrom v.2.1 v.1 = some c) (c0 : c.2.2.2.2.2.2.2.2.1 = 0) (cst : c.1.2.2.2.2 = 0) (cdr : c.2.2.1.2.1 = 0) (fa : ∀ i : Fin 29, i.1 ≠ 13 → f_X10_countOf c (nI i.1) = f_X12_counted w (nI i.1)) (m25 : w.2.1 25 = 0) (m9 : w.2.1 9 = 0) (m23 : w.2.1 23 = 0) (lay2 : ∃ u, f_X12_laysLimits (0, cpf w.2.1 0 4 0, w.2.2) = some u) : fk_23 xs v w (fun _ => 0) = some () := by
  unfold fk_23
  generalize xs ((0 : Int32) + (1 : Int32)).toNatClampNeg = p
  generalize xs ((0 : Int32) + (2 : Int32)).toNatClampNeg = q
  by_cases h : p < 1 ∨ 400 < p
  · refine both2 (-1) ?_ ?_
    · unfold f_X11_ahead
      by_cases h1 : p < 1
      · rw [if_pos h1]; exact ⟨_, rfl⟩
      · rw [if_neg h1, if_pos (h.resolve_left h1)]; exact ⟨_, rfl⟩
    · unfold f_X12_ahead
      rw [in_no h]; exact ⟨_, rfl⟩
  have h1 : ¬ p < 1 := fun q => h (Or.inl q)
  have h2 : ¬ 400 < p := fun q => h (Or.inr q)
  by_cases h' : q < 0 ∨ 28 < q
  · refine both2 (-1) ?_ ?_
    · unfold f_X11_ahead
      rw [if_neg h1, if_neg h2]
      by_cases h3 : q < 0
      · rw [if_pos h3]; exact ⟨_, rfl⟩
      · rw [if_neg h3, if_neg (Int32.not_le.mpr (h'.resolve_left h3))]; exact ⟨_, rfl⟩
    · unfold f_X12_ahead
      rw [in_yes h1 h2, b1s, if_neg (by decide), in_no h']; exact ⟨_, rfl⟩
  have h3 : ¬ q < 0 := fun z => h' (Or.inl z)
  have h4 : ¬ 28 < q := fun z => h' (Or.inr z)
  obtain ⟨N, hN, -, rfl⟩ := nI_of400 (A := 1) (B := 400) rfl rfl (by decide) (by decide) h1 h2
  obtain ⟨i, hi, -, rfl⟩ := nI_of400 (A := 0) (B := 28) rfl rfl (by decide) (by decide) h3 h4
  have hi' : i < 29 := by omega
  obtain ⟨u, e1, e2⟩ := X_draws (N := N) (by omega) N 0 (by omega) FU (FU_gt (by omega)) c 0 c0 cst
  obtain ⟨l, hl⟩ := lay2
  have hla := M_laysY hl
  obtain ⟨w', e3, e4, e5⟩ := M_draws (N := N) (by omega) N 0 (by omega) FU (FU_gt (by omega)) l 0 (by rw [hla, cpf_lo (by decide)]; exact m25) (by rw [hla, cpf_lo (by decide)]; exact m9)
  have hw : ∀ q, q ≠ 22 → q ≠ 23 → q ≠ 24 → q < 3780 → w'.2.1 q = w.2.1 q := by
    intro q a b d z
    rw [e4 q a b d, hla, cpf_lo z]
  have key : ∃ r, f_X10_countOf (c.1, c.2.1, u, c.2.2.2) (nI i) = some r ∧ f_X12_counted w' (nI i) = some r := by
    by_cases h13 : i = 13
    · subst h13
      refine ⟨u.2.1, X_c13 _, ?_⟩
      rw [cnt_13, e5, hla, cpf_lo (by decide), e2, cdr, m23]
    · obtain ⟨r, hr⟩ := cntS (w := w) hi'
      refine ⟨r, ?_, ?_⟩
      · rw [X_cnt (fun z => h13 ((nI_eq (by omega) (by decide)).mp (show nI i = nI 13 from z)))]
        exact (fa ⟨i, hi'⟩ h13).trans hr
      · rw [cnt_eq hw hi' h13, hr]
  obtain ⟨r, k1, k2⟩ := key
  refine both2 r ?_ ?_
  · unfold f_X11_ahead
    rw [if_neg h1, if_neg h2, if_neg h3, if_pos (Int32.not_lt.mp h4), eC, b1s]
    unfold f_X10_drawMany
    rw [show fb_X10_drawMany_4 FU c (nI N) 0 0 = _ from e1, b2s, k1]
    exact ⟨_, rfl⟩
  · unfold f_X12_ahead
    rw [in_yes h1 h2, b1s, if_neg (by decide), in_yes h3 h4, b1s, if_neg (by decide)]
    rw [show f_X12_copies (0, w.2) 0 4 = some (0, cpf w.2.1 0 4 0, w.2.2) from M_copies (i := 0) (j := 4) (by decide) (by decide) (by decide) (0, w.2), b1s]
    unfold f_X12_draws
    rw [hl, b1s, show fb_X12_draws_8 FU l (nI N) 0 0 = some (0, w') from e3, b2s, k2, b1s]
    unfold f_X12_back
    rw [show f_X12_copies w' 4 0 = _ from M_copies (i := 4) (j := 0) (by decide) (by decide) (by decide) w']
    exact ⟨_, rfl⟩
theorem q23 (xs : Nat → Int32) : fk_23 xs vX vM (fun _ => 0) = some () := g23 xs vX vM vC eC c0 cst cdr fa m25 m9 m23 lay2
