section AH
/-- the reference keeps the watch, its images, its text -/
def SA (v v2 : V12) : Prop := (∀ j, j < 3780 → v2.2.1 j = v.2.1 j) ∧ v2.2.2.1 = v.2.2.1 ∧ v2.2.2.2.1 = v.2.2.2.1
theorem SM.sa {v v2 : V12} (h : SM v v2) : SA v v2 := ⟨fun j _ => by rw [h.1], h.2.1, h.2.2⟩
theorem R.st25 {B : Nat} {w : V10} {F : Nat → Int32} (hR : R B w F) : F 25 = w.2.2.2.2.2.2.2.2.1 ∧ (w.2.2.2.2.2.2.2.2.1 = 0 ∨ w.2.2.2.2.2.2.2.2.1 = 1 ∨ w.2.2.2.2.2.2.2.2.1 = 2 ∨ w.2.2.2.2.2.2.2.2.1 = 3) := by
  obtain ⟨c, lg, W, BL, o, hSV, hS, hLm, hO, hC, hP, hQ, hRr, w25, w26, w27, w28, w29, w30, wst⟩ := hR
  exact ⟨w25, wst⟩
theorem m_counted (v : V12) {k : Nat} (hk : k < 29) : ∃ r2 : Int32, f_X12_counted v (nI k) = some r2 := by
  have : ∀ j, j < 29 → j = 0 ∨ j = 1 ∨ j = 2 ∨ j = 3 ∨ j = 4 ∨ j = 5 ∨ j = 6 ∨ j = 7 ∨ j = 8 ∨ j = 9 ∨ j = 10 ∨ j = 11 ∨ j = 12 ∨ j = 13 ∨ j = 14 ∨ j = 15 ∨ j = 16 ∨ j = 17 ∨ j = 18 ∨ j = 19 ∨ j = 20 ∨ j = 21 ∨ j = 22 ∨ j = 23 ∨ j = 24 ∨ j = 25 ∨ j = 26 ∨ j = 27 ∨ j = 28 := by omega
  rcases this k hk with h | h | h | h | h | h | h | h | h | h | h | h | h | h | h | h | h | h | h | h | h | h | h | h | h | h | h | h | h <;> subst h <;> exact ⟨_, rfl⟩
/-- the watch's copy, put back -/
theorem m_back {v v1 v2 : V12} {F2 : Nat → Int32} (c1 : ∀ j, j < 945 → v1.2.1 (945 * 4 + j) = v.2.1 (945 * 0 + j)) (c2 : ∀ j, j < 945 * 4 ∨ 945 * 4 + 945 ≤ j → v1.2.1 j = v.2.1 j) (d1 : ∀ j, 942 ≤ j → v2.2.1 j = v1.2.1 j) (e1 : ∀ j, j < 945 → F2 (945 * 0 + j) = v2.2.1 (945 * 4 + j)) (e2 : ∀ j, j < 945 * 0 ∨ 945 * 0 + 945 ≤ j → F2 j = v2.2.1 j) : ∀ j, j < 3780 → F2 j = v.2.1 j := by
  intro j hj
  by_cases h : j < 945
  · have q1 := e1 j h
    have q2 := d1 (945 * 4 + j) (by omega)
    have q3 := c1 j h
    rw [Nat.mul_zero, Nat.zero_add] at q1 q3
    rw [q1, q2, q3]
  · rw [e2 j (by omega), d1 j (by omega), c2 j (by omega)]
theorem q_ahead {B : Nat} {v0 : V11} {v : V12} (hR : R B v0.1 v.2.1) (hB : B + 400 < 2 ^ 30) (p1 p2 : Int32) : ∃ (r r2 : Int32) (u : V11) (v2 : V12), u.1 = v0.1 ∧ f_X11_ahead v0 p1 p2 = some (r, u) ∧ f_X12_ahead v p1 p2 = some (r2, v2) ∧ SA v v2 := by
  unfold f_X11_ahead f_X12_ahead
  by_cases a1 : p1 < 1
  · refine ⟨-1, -1, v0, (0, v.2), rfl, if_pos a1, ?_, fun _ _ => rfl, rfl, rfl⟩
    unfold f_X12_in
    rw [if_pos a1, bnd1_s, if_pos rfl]
  · have h0 : ¬ p1 < 0 := fun q => a1 (by
      rw [Int32.lt_iff_toInt_lt] at q ⊢
      rw [show (0 : Int32).toInt = 0 from rfl] at q
      rw [show (1 : Int32).toInt = 1 from rfl]
      omega)
    obtain ⟨n, hn, e⟩ := nI_of h0
    subst e
    have hn1 : 1 ≤ n := Nat.le_of_not_lt (fun q => a1 (nI_lt (b := 1) q (by decide)))
    have i1 : f_X12_in (nI n) 1 400 = some (if (decide (1 ≤ n) && decide (n ≤ 400)) = true then 1 else 0) := m_in2 (a := 1) (b := 400) (by decide) (by decide) hn
    rw [if_neg a1, i1, bnd1_s]
    by_cases a2 : n ≤ 400
    · rw [if_neg (show ¬ (400 : Int32) < nI n from nI_nlt (a := 400) a2 (by decide)), if_pos (in_dec ⟨hn1, a2⟩), if_neg (show ¬ (1 : Int32) = 0 by decide), show f_X12_in p2 0 28 = f_X12_in p2 0 (nI 29 - 1) from rfl]
      rcases in0 p2 (n := 29) (by decide) with ⟨k, k1, k2, k3⟩ | ⟨k1, k2⟩
      · rw [k3, bnd1_s, if_neg (show ¬ (1 : Int32) = 0 by decide), k2, if_neg (nI_pos (by omega)), if_pos (show nI k ≤ (28 : Int32) from nI_le (b := 28) (by omega) (by decide))]
        obtain ⟨w2, g1, g2, -, -⟩ := copy_rel v0.2.1 hR
        obtain ⟨F1, c0, c1, c2⟩ := m_copies (a := 0) (b := 4) (by decide) (by decide) (by decide) (0, v.2)
        have hR1 : R B w2 F1 := g2.frame (fun j hj => c2 j (by omega))
        obtain ⟨r, w3, v3, d1, d2, d3, d4, d5, d6, d7, d8⟩ := draws_rel (v := (0, F1, v.2.2)) hR1 a2 (by omega)
        obtain ⟨r4, hr4⟩ := x_count w3 (nI k)
        obtain ⟨r5, hr5⟩ := m_counted v3 k1
        obtain ⟨F4, f0, f1, f2⟩ := m_copies (a := 4) (b := 0) (by decide) (by decide) (by decide) v3
        rw [g1, bnd1_s, d1, bnd2_s, hr4, bnd1_s, show f_X12_copies ((0 : Int32), v.2) (0 : Int32) (4 : Int32) = _ from c0, bnd1_s]
        dsimp only
        rw [d2, bnd2_s, hr5, bnd1_s]
        unfold f_X12_back
        rw [show f_X12_copies v3 (4 : Int32) (0 : Int32) = _ from f0, bnd1_s, bnd2_s]
        exact ⟨r4, r5, (v0.1, w3, v0.2.2), (v3.1, F4, v3.2.2), rfl, rfl, rfl, m_back (v := (0, v.2)) (v1 := (0, F1, v.2.2)) (v2 := v3) c1 c2 d8 f1 f2, d5, d6⟩
      · rw [k2, bnd1_s, if_pos rfl]
        refine ⟨-1, -1, v0, (0, v.2), rfl, ?_, rfl, fun _ _ => rfl, rfl, rfl⟩
        rcases k1 with k1 | ⟨k, k3, k4, k5⟩
        · rw [if_pos k1]
        · rw [k5, if_neg (nI_pos k4), if_neg (show ¬ nI k ≤ (28 : Int32) from nI_ge (a := 28) (by omega) k4)]
    · exact ⟨-1, -1, v0, (0, v.2), rfl, if_pos (show (400 : Int32) < nI n from nI_lt (a := 400) (by omega) hn), if_pos (by rw [if_neg (in_ndec (by omega))]), fun _ _ => rfl, rfl, rfl⟩
theorem quiet_loop {B : Nat} {x : V11} {v1 : V12} (hB : B + 400 < 2 ^ 30) : ∀ (d f1 f2 k : Nat) (w : V10) (v : V12), k + d = 400 → d + 1 < f1 → d + 1 < f2 → R (B + k) w v.2.1 → w.2.2.2.2.2.2.2.2.1 ≠ 3 → (∀ j, 942 ≤ j → v.2.1 j = v1.2.1 j) → v.2.2.1 = v1.2.2.1 → v.2.2.2.1 = v1.2.2.2.1 → ∃ (r : Int32) (w2 : V10) (v3 v4 : V12), fb_X11_quiet_38 f1 (x.1, w, x.2.2) (nI (k + 1)) = some (r, (x.1, w2, x.2.2)) ∧ fb_X12_quiet_25 f2 v (nI k) = some (r, v4) ∧ f_X12_copies v3 4 0 = some v4 ∧ (∀ j, 942 ≤ j → v3.2.1 j = v1.2.1 j) ∧ v3.2.2.1 = v1.2.2.1 ∧ v3.2.2.2.1 = v1.2.2.2.1 := by
  have hend : ∀ (v : V12) (t : Int32), ∃ v4 : V12, fc_X12_quiet_72 v t = some (t, v4) ∧ f_X12_copies v 4 0 = some v4 := by
    intro v t
    obtain ⟨F4, f0, f1, f2⟩ := m_copies (a := 4) (b := 0) (by decide) (by decide) (by decide) v
    refine ⟨(v.1, F4, v.2.2), ?_, f0⟩
    unfold fc_X12_quiet_72 f_X12_back
    rw [show f_X12_copies v (4 : Int32) (0 : Int32) = _ from f0, bnd1_s, bnd2_s]
  have h25i : vp_in (25 : Int32) 4725 := by unfold vp_in; decide
  intro d
  induction d with
  | zero =>
    intro f1 f2 k w v hk hf1 hf2 hR hst h1 h2 h3
    obtain ⟨f1, rfl⟩ : ∃ m, f1 = m + 1 := ⟨f1 - 1, by omega⟩
    obtain ⟨f2, rfl⟩ : ∃ m, f2 = m + 1 := ⟨f2 - 1, by omega⟩
    obtain ⟨v4, q1, q2⟩ := hend v (-1)
    have hk : k = 400 := by omega
    subst hk
    refine ⟨-1, w, v, v4, ?_, ?_, q2, h1, h2, h3⟩
    · show fl_X11_quiet_38 (fb_X11_quiet_38 f1) _ _ = _
      unfold fl_X11_quiet_38
      rw [if_pos (by decide)]
    · show fl_X12_quiet_25 (fb_X12_quiet_25 f2) _ _ = _
      unfold fl_X12_quiet_25 fc_X12_quiet_55
      rw [if_pos (by decide), chk_in h25i, show ((25 : Int32)).toNatClampNeg = 25 from rfl, if_neg (show ¬ v.2.1 25 = (3 : Int32) by rw [hR.st25.1]; exact hst)]
      exact q1
  | succ d ih =>
    intro f1 f2 k w v hk hf1 hf2 hR hst h1 h2 h3
    obtain ⟨f1, rfl⟩ : ∃ m, f1 = m + 1 := ⟨f1 - 1, by omega⟩
    obtain ⟨f2, rfl⟩ : ∃ m, f2 = m + 1 := ⟨f2 - 1, by omega⟩
    obtain ⟨r, w2, v2, d1, d2, d3, d4, d5, d6, d7, d8⟩ := draws_rel hR (n := 1) (by decide) (by omega)
    have h1' : ∀ j, 942 ≤ j → v2.2.1 j = v1.2.1 j := fun j hj => (d8 j hj).trans (h1 j hj)
    have hX : fb_X11_quiet_38 (f1 + 1) (x.1, w, x.2.2) (nI (k + 1)) = if w2.2.2.2.2.2.2.2.2.1 = 3 then some (nI (k + 1), (x.1, w2, x.2.2)) else fb_X11_quiet_38 f1 (x.1, w2, x.2.2) (nI (k + 1 + 1)) := by
      show fl_X11_quiet_38 (fb_X11_quiet_38 f1) _ _ = _
      unfold fl_X11_quiet_38
      dsimp only
      rw [if_neg (show ¬ (400 : Int32) < nI (k + 1) from nI_nlt (a := 400) (by omega) (by decide)), show f_X10_drawMany w (1 : Int32) = _ from d1, bnd2_s, bnd_e, nI_1]
    have hM : fb_X12_quiet_25 (f2 + 1) v (nI k) = fb_X12_quiet_25 f2 v2 (nI (k + 1)) := by
      show fl_X12_quiet_25 (fb_X12_quiet_25 f2) _ _ = _
      unfold fl_X12_quiet_25
      rw [if_neg (show ¬ (400 : Int32) ≤ nI k from nI_ge (b := 400) (by omega) (by decide)), chk_in h25i, show ((25 : Int32)).toNatClampNeg = 25 from rfl, if_neg (show ¬ v.2.1 25 = (3 : Int32) by rw [hR.st25.1]; exact hst), show f_X12_draws v (1 : Int32) = _ from d2, bnd2_s, bnd_e, nI_1]
    rw [hX, hM]
    by_cases h : w2.2.2.2.2.2.2.2.2.1 = 3
    · rw [if_pos h]
      obtain ⟨f2, rfl⟩ : ∃ m, f2 = m + 1 := ⟨f2 - 1, by omega⟩
      obtain ⟨v4, q1, q2⟩ := hend v2 (nI (k + 1))
      refine ⟨nI (k + 1), w2, v2, v4, rfl, ?_, q2, h1', d5.trans h2, d6.trans h3⟩
      have h25 : v2.2.1 25 = 3 := by rw [d3.st25.1]; exact h
      have h55 : fc_X12_quiet_55 v2 (nI (k + 1)) = some (nI (k + 1), v4) := by
        unfold fc_X12_quiet_55
        rw [chk_in h25i, show ((25 : Int32)).toNatClampNeg = 25 from rfl, if_pos h25]
        exact q1
      show fl_X12_quiet_25 (fb_X12_quiet_25 f2) _ _ = _
      unfold fl_X12_quiet_25
      by_cases h4 : (400 : Int32) ≤ nI (k + 1)
      · rw [if_pos h4, h55]
      · rw [if_neg h4, chk_in h25i, show ((25 : Int32)).toNatClampNeg = 25 from rfl, if_pos h25, h55]
    · rw [if_neg h]
      exact ih f1 f2 (k + 1) w2 v2 (by omega) (by omega) (by omega) d3 h h1' (d5.trans h2) (d6.trans h3)
theorem q_quiet {B : Nat} {v0 : V11} {v : V12} (hR : R B v0.1 v.2.1) (hB : B + 400 < 2 ^ 30) : ∃ (r : Int32) (u : V11) (v2 : V12), u.1 = v0.1 ∧ f_X11_quiet v0 = some (r, u) ∧ f_X12_quiet v = some (r, v2) ∧ SA v v2 := by
  obtain ⟨h25, -⟩ := hR.st25
  have h25i : vp_in (25 : Int32) 4725 := by unfold vp_in; decide
  obtain ⟨w2, g1, g2, -, -⟩ := copy_rel v0.2.1 hR
  obtain ⟨F1, c0, c1, c2⟩ := m_copies (a := 0) (b := 4) (by decide) (by decide) (by decide) (0, v.2)
  have hR1 : R B w2 F1 := g2.frame (fun j hj => c2 j (by omega))
  have hM : v.2.1 25 ≠ 0 → f_X12_quiet v = fb_X12_quiet_25 FU (0, F1, v.2.2) (nI 0) := by
    intro h
    unfold f_X12_quiet
    rw [chk_in h25i, show ((25 : Int32)).toNatClampNeg = 25 from rfl, if_neg h, show f_X12_copies ((0 : Int32), v.2) (0 : Int32) (4 : Int32) = _ from c0, bnd1_s]
    rfl
  unfold f_X11_quiet
  by_cases h3 : v0.1.2.2.2.2.2.2.2.2.1 = 3
  · rw [if_pos h3, hM (by rw [h25, h3]; decide)]
    obtain ⟨F4, f0, f1, f2⟩ := m_copies (a := 4) (b := 0) (by decide) (by decide) (by decide) (0, F1, v.2.2)
    have h25' : F1 25 = 3 := by rw [c2 25 (by omega)]; exact h25.trans h3
    refine ⟨0, v0, (0, F4, v.2.2), rfl, rfl, ?_, m_back (v := (0, v.2)) (v1 := (0, F1, v.2.2)) (v2 := (0, F1, v.2.2)) c1 c2 (fun _ _ => rfl) f1 f2, rfl, rfl⟩
    show fl_X12_quiet_25 (fb_X12_quiet_25 8589934591) _ _ = _
    unfold fl_X12_quiet_25 fc_X12_quiet_55 fc_X12_quiet_72 f_X12_back
    dsimp only
    rw [if_neg (by decide), chk_in h25i, show ((25 : Int32)).toNatClampNeg = 25 from rfl, if_pos h25', chk_in h25i, if_pos h25', show f_X12_copies ((0 : Int32), F1, v.2.2) (4 : Int32) (0 : Int32) = _ from f0, bnd1_s, bnd2_s]
    rfl
  · rw [if_neg h3]
    by_cases h0 : v0.1.2.2.2.2.2.2.2.2.1 = 0
    · rw [if_pos h0]
      refine ⟨-1, v0, (0, v.2), rfl, rfl, ?_, fun _ _ => rfl, rfl, rfl⟩
      unfold f_X12_quiet
      rw [chk_in h25i, show ((25 : Int32)).toNatClampNeg = 25 from rfl, if_pos (h25.trans h0)]
    · rw [if_neg h0, hM (by rw [h25]; exact h0), g1, bnd1_s]
      have hst : w2.2.2.2.2.2.2.2.2.1 ≠ 3 := by
        have := hR1.st25.1
        rw [← this, c2 25 (by omega)]
        show v.2.1 25 ≠ 3
        rw [h25]; exact h3
      obtain ⟨r, w3, v3, v4, q1, q2, q3, q4, q5, q6⟩ := quiet_loop (B := B) (x := v0) (v1 := (0, F1, v.2.2)) hB 400 FU FU 0 w2 (0, F1, v.2.2) (by omega) (by decide) (by decide) hR1 hst (fun _ _ => rfl) rfl rfl
      obtain ⟨F4, f0, f1, f2⟩ := m_copies (a := 4) (b := 0) (by decide) (by decide) (by decide) v3
      have e4 : v4 = (v3.1, F4, v3.2.2) := Option.some.inj (q3.symm.trans f0)
      subst e4
      exact ⟨r, (v0.1, w3, v0.2.2), (v3.1, F4, v3.2.2), rfl, q1, q2, m_back (v := (0, v.2)) (v1 := (0, F1, v.2.2)) (v2 := v3) c1 c2 q4 f1 f2, q5, q6⟩
end AH
