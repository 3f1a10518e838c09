section QB
/-- the settings' cells -/
theorem SV.cells {s : V7} {F : Nat → Int32} {c lg W BL o : Nat} (h : SV s.1 c lg W BL o) (hS : RS s F) : F 0 = nI c ∧ F 1 = nI lg ∧ F 2 = nI W ∧ F 4 = nI BL ∧ F 5 = nI o := by
  obtain ⟨g0, g1, g2, g3, g4, g5, g6, g7, g8, g9, g10, g11, g12, g13, g14⟩ := h
  exact ⟨(hS.1 0 (by decide)).trans g0, (hS.1 1 (by decide)).trans g3, (hS.1 2 (by decide)).trans g6, (hS.1 4 (by decide)).trans g9, (hS.1 5 (by decide)).trans g12⟩
theorem lmW_le (c lg n : Nat) : lmW c lg n ≤ n + 1 := (fst_no (fun k => rareb (TS c n k) (4 * n) lg) (n := n + 1) (a := 1) (d := n) (by omega)).2.1
theorem q_limit {B : Nat} {v0 : V11} {v : V12} (hR : R B v0.1 v.2.1) (p : Int32) : ∃ u : V11, u.1 = v0.1 ∧ ((∃ r : Int32, f_X11_limit v0 p = some (some r, u) ∧ f_X12_limit v p = some (r, (0, v.2))) ∨ (f_X11_limit v0 p = some (none, u) ∧ f_X12_limit v p = some (0, (1, v.2)))) := by
  obtain ⟨c, lg, W, BL, o, hSV, hS, ⟨m1, m2, m3⟩, -⟩ := hR
  obtain ⟨f0, f1, f2, f4, f5⟩ := hSV.cells hS
  have hSV0 := hSV
  obtain ⟨g0, g1, g2, g3, g4, g5, g6, g7, g8, g9, g10, g11, g12, g13, g14⟩ := hSV
  have hbad : (f_X12_in p 0 4 = some 0) → (f_X12_in p 11 25 = some 0) → f_X12_limit v p = some (0, (1, v.2)) := by
    intro h1 h2
    unfold f_X12_limit fc_X12_limit_26
    rw [h1, bnd1_s, if_pos rfl, h2, bnd1_s, if_pos rfl, if_neg (by decide)]
  by_cases h0 : p < 0
  · refine ⟨v0, rfl, Or.inr ⟨?_, hbad ?_ ?_⟩⟩
    · have h10 : p ≤ 10 := by
        rw [Int32.lt_iff_toInt_lt, show (0 : Int32).toInt = 0 from rfl] at h0
        rw [Int32.le_iff_toInt_le, show (10 : Int32).toInt = 10 from rfl]
        omega
      unfold f_X11_limit fc_X11_limit_21
      rw [if_pos h10, if_pos (Or.inl h0)]
    · unfold f_X12_in; rw [if_pos h0]
    · have h11 : p < 11 := by
        rw [Int32.lt_iff_toInt_lt, show (0 : Int32).toInt = 0 from rfl] at h0
        rw [Int32.lt_iff_toInt_lt, show (11 : Int32).toInt = 11 from rfl]
        omega
      unfold f_X12_in; rw [if_pos h11]
  · obtain ⟨j, hj, e⟩ := nI_of h0
    subst e
    have i1 : f_X12_in (nI j) 0 4 = some (if (decide (0 ≤ j) && decide (j ≤ 4)) = true then 1 else 0) := m_in2 (a := 0) (b := 4) (by decide) (by decide) hj
    have i2 : f_X12_in (nI j) 11 25 = some (if (decide (11 ≤ j) && decide (j ≤ 25)) = true then 1 else 0) := m_in2 (a := 11) (b := 25) (by decide) (by decide) hj
    by_cases h4 : j ≤ 4
    · rw [if_pos (in_dec (by omega))] at i1
      have hX : f_X11_limit v0 (nI j) = fc_X11_limit_21 v0 (nI j) := by
        unfold f_X11_limit
        rw [if_pos (show nI j ≤ (10 : Int32) from nI_le (b := 10) (by omega) (by decide))]
      have hM : f_X12_limit v (nI j) = fc_X12_limit_26 v (nI j) 0 := by
        unfold f_X12_limit fc_X12_limit_21
        rw [i1, bnd1_s, if_neg (by decide)]
      rw [hX, hM]
      unfold fc_X11_limit_21 fc_X12_limit_26
      rw [if_pos (show (0 : Int32) ≤ 0 by decide)]
      refine ⟨v0, rfl, Or.inl ?_⟩
      have : j = 0 ∨ j = 1 ∨ j = 2 ∨ j = 3 ∨ j = 4 := by omega
      rcases this with h | h | h | h | h <;> subst h
      · refine ⟨nI (lmR c lg), congrArg (fun x => some (some x, v0)) m1, ?_⟩
        show bnd1 (f_X12_repeats (0, v.2)) _ = _
        rw [m_rep (v := (0, v.2)) f0 f1 g1 g2 g4 g5, bnd1_s]
      · refine ⟨nI (lmP c lg W), congrArg (fun x => some (some x, v0)) m2, ?_⟩
        show bnd1 (f_X12_proportion (0, v.2)) _ = _
        rw [m_prop (v := (0, v.2)) f0 f1 f2 g1 g2 g5 g7 g8, bnd1_s]
      · refine ⟨nI (lmC lg W), congrArg (fun x => some (some x, v0)) m3, ?_⟩
        show bnd1 (f_X12_changes (0, v.2)) _ = _
        rw [m_chg (v := (0, v.2)) f1 f2 g5 g7 g8, bnd1_s]
      · refine ⟨nI (yv c BL o), ?_, ?_⟩
        · rw [if_neg (by decide), if_neg (by decide), if_neg (by decide), if_neg (by decide), if_pos (by decide), x_yield hSV0, bnd1_s]
        · rw [if_neg (by decide), if_neg (by decide), if_neg (by decide), if_neg (by decide), if_pos (by decide), m_yield (v := (0, v.2)) f0 f4 f5 g2 g1 g11 g14, bnd1_s]
      · refine ⟨9 * (16 - nI c), ?_, ?_⟩
        · unfold f_X7_earned
          rw [if_neg (by decide), if_neg (by decide), if_neg (by decide), if_neg (by decide), if_neg (by decide), if_pos (by decide), show (0 : Int32) = nI 0 from rfl, val_nI _ (by decide), bnd1_s, bnd1_s, g0]
        · unfold f_X12_earned
          rw [if_neg (by decide), if_neg (by decide), if_neg (by decide), if_neg (by decide), if_neg (by decide), if_pos (by decide), chk_in (show vp_in (0 : Int32) 4725 by unfold vp_in; decide), bnd1_s, show ((0 : Int32)).toNatClampNeg = 0 from rfl]
          show some (9 * (16 - v.2.1 0), _) = _
          rw [f0]
    · rw [if_neg (in_ndec (by omega))] at i1
      by_cases h25 : 11 ≤ j ∧ j ≤ 25
      · rw [if_pos (in_dec h25)] at i2
        have e10 : nI j - (10 : Int32) = nI (j - 10) := pk_sub (b := 10) (by omega)
        have hM : f_X12_limit v (nI j) = some (nI (lmW c lg (j - 10)), (0, v.2)) := by
          unfold f_X12_limit fc_X12_limit_21 fc_X12_limit_26
          rw [i1, bnd1_s, if_pos rfl, i2, bnd1_s, if_neg (by decide), if_pos (by decide), if_pos (Or.inr (show (4 : Int32) < nI j from nI_lt (a := 4) (by omega) hj)), e10, m_rows (v := (0, v.2)) f0 f1 g1 g2 g5 (by omega), bnd1_s]
        obtain ⟨T, t1, t2⟩ := x_fill v0.2.2.2.2.2.1 (c := c) (n := j - 10) g2 (by omega)
        refine ⟨(v0.1, v0.2.1, v0.2.2.1, v0.2.2.2.1, v0.2.2.2.2.1, (T, nI (j - 10), v0.2.2.2.2.2.1.2.2), v0.2.2.2.2.2.2.1, v0.2.2.2.2.2.2.2), rfl, Or.inl ⟨nI (lmW c lg (j - 10)), ?_, hM⟩⟩
        unfold f_X11_limit f_X11_rowsOf
        rw [if_neg (show ¬ nI j ≤ (10 : Int32) from nI_ge (a := 10) (by omega) hj), if_neg (show ¬ (25 : Int32) < nI j from nI_nlt (a := 25) (by omega) (by decide)), e10, show f_X7_valueOf v0.1.1 (0 : Int32) = f_X7_valueOf v0.1.1 (nI 0) from rfl, show f_X7_valueOf v0.1.1 (1 : Int32) = f_X7_valueOf v0.1.1 (nI 1) from rfl, val_nI _ (by decide), val_nI _ (by decide), bnd1_s, g0, g3, t1, bnd1_s, bnd1_s, x_least _ g1 g2 (by omega) g5 t2, bnd1_s, bnd2_s]
      · rw [if_neg (in_ndec h25)] at i2
        refine ⟨v0, rfl, Or.inr ⟨?_, hbad i1 i2⟩⟩
        have h21 : fc_X11_limit_21 v0 (nI j) = some (none, v0) := by
          unfold fc_X11_limit_21
          rw [if_pos (Or.inr (show (4 : Int32) < nI j from nI_lt (a := 4) (by omega) hj))]
        unfold f_X11_limit
        by_cases h10 : j ≤ 10
        · rw [if_pos (show nI j ≤ (10 : Int32) from nI_le (b := 10) h10 (by decide)), h21]
        · rw [if_neg (show ¬ nI j ≤ (10 : Int32) from nI_ge (a := 10) (by omega) hj), if_pos (show (25 : Int32) < nI j from nI_lt (a := 25) (by omega) hj), h21]
/-- odds in least terms -/
def z2 (n : Nat) : V2 := ((fun _ => 0), nI n, 0, 0, 0)
def odb (M0 M1 : Option (Int64 × V12)) (X0 X1 : Option Int64) : Bool := decide (M0.map Prod.fst = X0) && (decide (M1.map Prod.fst = X1) && (X0.isSome && X1.isSome))
theorem odb_of {M0 M1 : Option (Int64 × V12)} {X0 X1 : Option Int64} (h : odb M0 M1 X0 X1 = true) : (M0.map Prod.fst = X0 ∧ M1.map Prod.fst = X1) ∧ X0.isSome = true ∧ X1.isSome = true := by
  unfold odb at h
  rw [Bool.and_eq_true, Bool.and_eq_true, Bool.and_eq_true, decide_eq_true_eq, decide_eq_true_eq] at h
  exact ⟨⟨h.1, h.2.1⟩, h.2.2⟩
theorem od_ev : ∀ c, c < 16 → 8 ≤ c → ∀ n, n < 15 → ∀ j, j < 16 → odb (fc_X12_odds_67 (mv c 0) 0 (lN (TS c n j)) (nI (4 * n)) 1) (fc_X12_odds_67 (mv c 0) 1 (lN (TS c n j)) (nI (4 * n)) 1) (fc_X2_leastTerms_31 (z2 n) 0 (lN (TS c n j))) (fc_X2_leastTerms_31 (z2 n) 1 (lN (TS c n j))) = true := by decide +kernel
theorem od_ev8 : ∀ n, n < 15 → ∀ j, j < 16 → odb (fc_X12_odds_67 (mv 8 0) 0 (lN (HV n j)) (nI n) 1) (fc_X12_odds_67 (mv 8 0) 1 (lN (HV n j)) (nI n) 1) (fc_X2_leastTerms_31 (z2 n) 0 (lN (TS 8 n j))) (fc_X2_leastTerms_31 (z2 n) 1 (lN (TS 8 n j))) = true := by decide +kernel
theorem od_dep (u v : V12) (x2 : Int32) (x4 : Int64) (t0 : Int32) (t1 : Int64) : fc_X12_odds_67 v x2 x4 t0 t1 = (fc_X12_odds_67 u x2 x4 t0 t1).map (fun p => (p.1, v)) := by
  unfold fc_X12_odds_67
  rw [bnd_e, bnd_e]
  cases f_X12_measure x4 (jlshl t1 t0) with
  | none => rfl
  | some r =>
    rw [bnd1_s, bnd1_s]
    unfold chknzL
    by_cases h : x2 = 0
    · rw [if_pos h, if_pos h]
      split <;> rfl
    · rw [if_neg h, if_neg h]
      split <;> rfl
theorem lt_dep (u v : V2) : ∀ (fu : Nat) (x2 : Int32) (x3 x5 : Int64) (x7 : Int32), fb_X2_leastTerms_61 u fu x2 x3 x5 x7 = fb_X2_leastTerms_61 v fu x2 x3 x5 x7
  | 0, _, _, _, _ => rfl
  | fu + 1, x2, x3, x5, x7 => by
    have ih := lt_dep u v fu
    unfold fb_X2_leastTerms_61 fl_X2_leastTerms_61 fc_X2_leastTerms_101
    simp only [bnd_e, ih]
theorem lt_31 {u v : V2} (h : u.2.1 = v.2.1) (x2 : Int32) (t : Int64) : fc_X2_leastTerms_31 u x2 t = fc_X2_leastTerms_31 v x2 t := by
  unfold fc_X2_leastTerms_31
  rw [h, bnd_e, bnd_e, lt_dep u v]
theorem x_terms {T : Nat → Int64} {c n j : Nat} (rest : Int32 × Int32 × Int32) (hn : n ≤ 15) (hj : j ≤ n + 1) (hT : ∀ j, j < 17 → T j = lN (TS c n j)) (p : Int32) : f_X2_leastTerms (T, nI n, rest) (nI j) p = fc_X2_leastTerms_31 (z2 n) p (lN (TS c n j)) := by
  have h31 : ∀ t : Int64, fc_X2_leastTerms_31 (T, nI n, rest) p t = fc_X2_leastTerms_31 (z2 n) p t := fun t => lt_31 (u := (T, nI n, rest)) (v := z2 n) (show nI n = nI n from rfl) p t
  unfold f_X2_leastTerms fc_X2_leastTerms_21
  dsimp only
  rw [if_neg (nI_pos (by omega)), h31 0]
  by_cases h : j ≤ n
  · rw [if_neg (nI_nlt h (by omega)), if_pos (show nI j < (17 : Int32) from nI_lt (b := 17) (by omega) (by decide)), chk_nI (by omega) (by decide), nI_clamp (by omega), hT j (by omega), h31]
  · rw [if_pos (nI_lt (by omega) (by omega)), TS_out c n j (by omega)]
    rfl
theorem od_of {X : Option Int64} {Y : Option (Int64 × V12)} (e : Y.map Prod.fst = X) (h : X.isSome = true) (v : V12) : ∃ r : Int64, X = some r ∧ Y.map (fun p => (p.1, v)) = some (r, v) := by
  cases Y with
  | none => subst e; exact absurd h (by decide)
  | some y => subst e; exact ⟨y.1, rfl, rfl⟩
theorem q_odds {B : Nat} {v0 : V11} {v : V12} (hR : R B v0.1 v.2.1) (p1 p2 : Int32) (hp : p2 = 0 ∨ p2 = 1) : ∃ (r : Int64) (u : V11), u.1 = v0.1 ∧ f_X11_odds v0 p1 p2 = some (r, u) ∧ f_X12_odds v p1 p2 = some (r, (0, v.2)) := by
  obtain ⟨c, lg, W, BL, o, hSV, hS, ⟨m1, m2, m3⟩, -⟩ := hR
  obtain ⟨f0, f1, f2, f4, f5⟩ := hSV.cells hS
  obtain ⟨g0, g1, g2, g3, g4, g5, g6, g7, g8, g9, g10, g11, g12, g13, g14⟩ := hSV
  have eW : nI W - (1 : Int32) = nI (W - 1) := pk_sub (b := 1) (by omega)
  unfold f_X11_odds f_X12_odds
  rw [show f_X7_valueOf v0.1.1 (2 : Int32) = f_X7_valueOf v0.1.1 (nI 2) from rfl, show f_X7_valueOf v0.1.1 (0 : Int32) = f_X7_valueOf v0.1.1 (nI 0) from rfl, val_nI _ (by decide), val_nI _ (by decide), bnd1_s, g0, g6, bnd_e, eW, bnd1_s]
  have hlP : lmP c lg W = lmW c lg (W - 1) + 1 := lmP_eq c lg W (by omega)
  have hlW := lmW_le c lg (W - 1)
  have hlC : lmC lg W = lmW 8 lg (W - 1) := lmC_eq lg W (by omega)
  have hlW8 := lmW_le 8 lg (W - 1)
  by_cases h0 : p1 = 0
  · subst h0
    rw [if_pos rfl, show f_X12_in 0 0 1 = some 1 by decide, bnd1_s, if_neg (by decide), chk_in (show vp_in (2 : Int32) 4725 by unfold vp_in; decide), show ((2 : Int32)).toNatClampNeg = 2 from rfl, f2, eW, bnd_e, if_pos rfl, m_prop (v := (0, v.2)) f0 f1 f2 g1 g2 g5 g7 g8, bnd1_s, hlP, nI_pred, m_tail (v := (0, v.2)) f0 g1 g2 (by omega) (by omega), bnd1_s, m2, hlP, nI_pred]
    obtain ⟨T, t1, t2⟩ := x_fill v0.2.2.2.2.2.1 (c := c) (n := W - 1) g2 (by omega)
    rw [t1, bnd1_s, x_terms _ (by omega) hlW t2]
    unfold fc_X12_odds_53
    rw [if_pos rfl, show (4 : Int32) * nI (W - 1) = nI (4 * (W - 1)) from pk_mul 4 _, od_dep (mv c 0)]
    obtain ⟨⟨e1, e2⟩, e3, e4⟩ := odb_of (od_ev c (by omega) g1 (W - 1) (by omega) (lmW c lg (W - 1)) (by omega))
    rcases hp with hp | hp
    · rw [hp]
      obtain ⟨r, r1, r2⟩ := od_of e1 e3 (0, v.2)
      exact ⟨r, (v0.1, v0.2.1, v0.2.2.1, v0.2.2.2.1, v0.2.2.2.2.1, (T, nI (W - 1), v0.2.2.2.2.2.1.2.2), v0.2.2.2.2.2.2), rfl, by rw [r1, bnd1_s], r2⟩
    · rw [hp]
      obtain ⟨r, r1, r2⟩ := od_of e2 e4 (0, v.2)
      exact ⟨r, (v0.1, v0.2.1, v0.2.2.1, v0.2.2.2.1, v0.2.2.2.2.1, (T, nI (W - 1), v0.2.2.2.2.2.1.2.2), v0.2.2.2.2.2.2), rfl, by rw [r1, bnd1_s], r2⟩
  · by_cases h1 : p1 = 1
    · subst h1
      rw [if_neg (by decide), if_pos rfl, show f_X12_in 1 0 1 = some 1 by decide, bnd1_s, if_neg (by decide), chk_in (show vp_in (2 : Int32) 4725 by unfold vp_in; decide), show ((2 : Int32)).toNatClampNeg = 2 from rfl, f2, eW, bnd_e, if_neg (by decide), m_chg (v := (0, v.2)) f1 f2 g5 g7 g8, bnd1_s, hlC, halves_ev (W - 1) (by omega) _ (by omega), bnd1_s, m3, hlC]
      obtain ⟨T, t1, t2⟩ := x_fill v0.2.2.2.2.2.1 (c := 8) (n := W - 1) (by decide) (by omega)
      rw [show f_X2_fill v0.2.2.2.2.2.1 (nI (W - 1)) (8 : Int32) = _ from t1, bnd1_s, x_terms _ (by omega) hlW8 t2]
      unfold fc_X12_odds_53
      rw [if_neg (by decide), od_dep (mv 8 0)]
      obtain ⟨⟨e1, e2⟩, e3, e4⟩ := odb_of (od_ev8 (W - 1) (by omega) (lmW 8 lg (W - 1)) (by omega))
      rcases hp with hp | hp
      · rw [hp]
        obtain ⟨r, r1, r2⟩ := od_of e1 e3 (0, v.2)
        exact ⟨r, (v0.1, v0.2.1, v0.2.2.1, v0.2.2.2.1, v0.2.2.2.2.1, (T, nI (W - 1), v0.2.2.2.2.2.1.2.2), v0.2.2.2.2.2.2), rfl, by rw [r1, bnd1_s], r2⟩
      · rw [hp]
        obtain ⟨r, r1, r2⟩ := od_of e2 e4 (0, v.2)
        exact ⟨r, (v0.1, v0.2.1, v0.2.2.1, v0.2.2.2.1, v0.2.2.2.2.1, (T, nI (W - 1), v0.2.2.2.2.2.1.2.2), v0.2.2.2.2.2.2), rfl, by rw [r1, bnd1_s], r2⟩
    · refine ⟨-1, v0, rfl, by rw [if_neg h0, if_neg h1], ?_⟩
      have hi : f_X12_in p1 0 1 = some 0 := by
        rw [show f_X12_in p1 0 1 = f_X12_in p1 0 (nI 2 - 1) from rfl]
        rcases in0 p1 (n := 2) (by decide) with ⟨k, k1, k2, k3⟩ | ⟨k1, k2⟩
        · have : k = 0 ∨ k = 1 := by omega
          rcases this with e | e
          · rw [e] at k2; exact absurd k2 h0
          · rw [e] at k2; exact absurd k2 h1
        · exact k2
      rw [hi, bnd1_s, if_pos rfl]
end QB
