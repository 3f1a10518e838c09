section LO
theorem sub1 (a b : Int32) : a - (b + 1) + 1 = a - b := by
  rw [Int32.sub_eq_add_neg, Int32.neg_add, Int32.add_assoc, Int32.sub_add_cancel, ← Int32.sub_eq_add_neg]
theorem long_loop {u : V0} {F : Nat → Int32} {n H : Nat} {g : Nat → Nat} (hB : BT u F n g) (hH : H ≤ 400) (hnH : n ≤ H) (h300 : F 300 = nI H) {v : V12} (hv : v.2.1 = F) (p2 : Int32) : ∀ (d f1 f2 k st best bst : Nat), k + d = n → st < k → g (k - 1) = g st → 1 ≤ best → best ≤ 400 → bst ≤ k → d < f1 → d < f2 → ∃ b2 s2 : Nat, fb_X0_measureLongest_14 f1 (u.1, u.2.1, u.2.2.1, nI best, nI bst) (nI st) (nI k) = some (u.1, u.2.1, u.2.2.1, nI b2, nI s2) ∧ fb_X12_longest_27 f2 v (nI n) p2 (nI best) (nI (H - n + bst)) (nI (k - st)) (nI k) = some ((if p2 = 0 then nI b2 else nI (H - n + s2)), v) := by
  obtain ⟨h1, h2, h3, h4, h5⟩ := hB
  intro d
  induction d with
  | zero =>
    intro f1 f2 k st best bst hk hst hgs hb1 hb4 hbk hf1 hf2
    obtain ⟨f1, rfl⟩ : ∃ m, f1 = m + 1 := ⟨f1 - 1, by omega⟩
    obtain ⟨f2, rfl⟩ : ∃ m, f2 = m + 1 := ⟨f2 - 1, by omega⟩
    refine ⟨best, bst, ?_, ?_⟩
    · show fl_X0_measureLongest_14 (fb_X0_measureLongest_14 f1) _ _ _ = _
      unfold fl_X0_measureLongest_14
      dsimp only
      rw [h1, if_pos (nI_le (by omega) (by omega))]
    · show fl_X12_longest_27 (fb_X12_longest_27 f2) _ _ _ _ _ _ _ = _
      unfold fl_X12_longest_27
      rw [if_pos (nI_le (by omega) (by omega))]
      by_cases hp : p2 = 0
      · rw [if_pos hp, if_pos hp]
      · rw [if_neg hp, if_neg hp]
  | succ d ih =>
    intro f1 f2 k st best bst hk hst hgs hb1 hb4 hbk hf1 hf2
    obtain ⟨f1, rfl⟩ : ∃ m, f1 = m + 1 := ⟨f1 - 1, by omega⟩
    obtain ⟨f2, rfl⟩ : ∃ m, f2 = m + 1 := ⟨f2 - 1, by omega⟩
    obtain ⟨g1, g2⟩ := h4 k (by omega)
    obtain ⟨g3, g4⟩ := h4 st (by omega)
    obtain ⟨g5, g6⟩ := h4 (k - 1) (by omega)
    show ∃ b2 s2 : Nat, fl_X0_measureLongest_14 (fb_X0_measureLongest_14 f1) (u.1, u.2.1, u.2.2.1, nI best, nI bst) (nI st) (nI k) = some (u.1, u.2.1, u.2.2.1, nI b2, nI s2) ∧ fl_X12_longest_27 (fb_X12_longest_27 f2) v (nI n) p2 (nI best) (nI (H - n + bst)) (nI (k - st)) (nI k) = some ((if p2 = 0 then nI b2 else nI (H - n + s2)), v)
    unfold fl_X0_measureLongest_14 fl_X12_longest_27
    dsimp only
    rw [h1, if_neg (nI_ge (by omega) (by omega)), if_neg (n400 (by omega)), chk_nI (by omega) (by decide), chk_nI (by omega) (by decide), nI_clamp (n := k) (by omega), nI_clamp (n := st) (by omega), if_neg (nI_ge (show k < n by omega) (by omega)), if_neg (nI_nle (by omega) (by omega)), h5 v hv k (by omega), bnd1_s, show nI k - (1 : Int32) = nI (k - 1) from pk_sub (b := 1) (by omega), h5 v hv (k - 1) (by omega), bnd1_s]
    unfold fc_X0_measureLongest_46 fc_X12_longest_64 fc_X12_longest_65
    dsimp only
    by_cases e : g k = g st
    · rw [if_pos (show u.1 k = u.1 st by rw [g2, g4, e]), if_pos (show nI (g k) = nI (g (k - 1)) by rw [hgs, e]), pk_sub (by omega), nI_1]
      by_cases c : k - st + 1 ≤ best
      · rw [if_pos (nI_le c (by omega)), if_pos (nI_le c (by omega)), bnd_e, bnd_e, nI_1]
        have := ih f1 f2 (k + 1) st best bst (by omega) (by omega) (by rw [show k + 1 - 1 = k by omega]; exact e) hb1 hb4 (by omega) (by omega) (by omega)
        rw [show k + 1 - st = k - st + 1 by omega] at this
        rw [h1] at this
        exact this
      · rw [if_neg (nI_ge (by omega) (by omega)), if_neg (nI_ge (by omega) (by omega)), bnd_e, bnd_e, chk_in (show vp_in (300 : Int32) 4725 by unfold vp_in; decide), show ((300 : Int32)).toNatClampNeg = 300 from rfl, hv, h300, bnd_e, bnd_e, pk_sub hnH, nI_add, ← nI_1 (k - st), sub1, pk_sub (by omega), nI_1, nI_1]
        have := ih f1 f2 (k + 1) st (k - st + 1) st (by omega) (by omega) (by rw [show k + 1 - 1 = k by omega]; exact e) (by omega) (by omega) (by omega) (by omega) (by omega)
        rw [show k + 1 - st = k - st + 1 by omega] at this
        rw [show H - n + k - (k - st) = H - n + st by omega]
        rw [h1] at this
        exact this
    · rw [if_neg (show ¬ u.1 k = u.1 st by rw [g2, g4]; exact fun q => e ((nI_eq (by omega) (by omega)).mp q)), if_neg (show ¬ nI (g k) = nI (g (k - 1)) by rw [hgs]; exact fun q => e ((nI_eq (by omega) (by omega)).mp q)), pk_sub (Nat.le_refl k), nI_1, if_pos (nI_le (show k - k + 1 ≤ best by omega) (by omega)), if_pos (show (1 : Int32) ≤ nI best from nI_le (a := 1) hb1 (by omega)), bnd_e, bnd_e, nI_1]
      have := ih f1 f2 (k + 1) k best bst (by omega) (by omega) (by rw [show k + 1 - 1 = k by omega]) hb1 hb4 (by omega) (by omega) (by omega)
      rw [show k + 1 - k = 1 by omega, h1] at this
      exact this
theorem q_longest {v0 : V11} {v : V12} (hQ : RQ 300 301 400 v0.1.2.2.2.2.2.1 v.2.1) (p1 p2 : Int32) : ∃ (r : Int32) (u : V11) (v2 : V12), u.1 = v0.1 ∧ f_X11_longest v0 p1 p2 = some (r, u) ∧ f_X12_longest v p1 p2 = some (r, v2) ∧ SM v v2 := by
  unfold f_X11_longest f_X12_longest
  rcases there_rel (v := (0, v.2)) hQ p1 (m := 1) (Or.inl rfl) with ⟨t1, t2⟩ | ⟨n, H, u, e, t1, t2, t3, t4⟩
  · rw [show f_X11_loadLatest v0 p1 (1 : Int32) = _ from t1, bnd2_s, if_pos rfl, show f_X12_isThere ((0 : Int32), v.2) p1 (1 : Int32) = _ from t2, bnd1_s, if_pos rfl]
    exact ⟨-1, (v0.1, v0.2.1, v0.2.2.1, v0.2.2.2.1, v0.2.2.2.2.1, v0.2.2.2.2.2.1, v0.2.2.2.2.2.2.1, v0.2.2.2.2.2.2.2), (0, v.2), rfl, rfl, rfl, rfl, rfl, rfl⟩
  · rw [show f_X11_loadLatest v0 p1 (1 : Int32) = _ from t3, bnd2_s, if_neg (show ¬ (1 : Int32) = 0 by decide), show f_X12_isThere ((0 : Int32), v.2) p1 (1 : Int32) = _ from t4, bnd1_s, if_neg (show ¬ (1 : Int32) = 0 by decide), e]
    obtain ⟨g, hB⟩ := t2.bt
    have hB0 := hB
    obtain ⟨-, d2, d3, d4, d5, -⟩ := t2
    obtain ⟨h1, h2, h3, h4, h5⟩ := hB0
    have hlen : v0.1.2.2.2.2.2.1.2.2 = nI H := by
      obtain ⟨n', h', -, -, q3, -, q5, -⟩ := hQ
      rw [q3, ← q5]; exact d5
    obtain ⟨b2, s2, r1, r2⟩ := long_loop hB d4 d3 d5 (v := (0, v.2)) rfl p2 (n - 1) 8589934591 8589934591 1 0 1 0 (by omega) (by omega) rfl (by omega) (by omega) (by omega) (by omega) (by omega)
    have hX : f_X0_measureLongest u = some (u.1, u.2.1, u.2.2.1, nI b2, nI s2) := by
      refine Eq.trans ?_ r1
      show fl_X0_measureLongest_14 (fb_X0_measureLongest_14 8589934591) (u.1, u.2.1, u.2.2.1, nI 0, nI 0) (nI 0) (nI 0) = _
      unfold fl_X0_measureLongest_14 fc_X0_measureLongest_46
      dsimp only
      rw [h1, if_neg (nI_ge (by omega) (by omega)), if_neg (n400 (by omega)), chk_nI (by omega) (by decide), chk_nI (by omega) (by decide), if_pos rfl, if_neg (by decide), bnd_e, bnd_e]
      rfl
    have hM : fb_X12_longest_27 FU (0, v.2) (nI n) p2 0 0 0 0 = some ((if p2 = 0 then nI b2 else nI (H - n + s2)), (0, v.2)) := by
      refine Eq.trans ?_ r2
      show fl_X12_longest_27 (fb_X12_longest_27 8589934591) (0, v.2) (nI n) p2 (nI 0) (nI 0) (nI 0) (nI 0) = _
      unfold fl_X12_longest_27 fc_X12_longest_64 fc_X12_longest_65
      rw [if_neg (nI_ge (by omega) (by omega)), if_pos (by decide), if_neg (by decide), chk_in (show vp_in (300 : Int32) 4725 by unfold vp_in; decide), show ((300 : Int32)).toNatClampNeg = 300 from rfl]
      dsimp only
      rw [show v.2.1 300 = nI H from d5, bnd_e, bnd_e, pk_sub d3, nI_add, show nI (H - n + 0) - (1 : Int32) + 1 = nI (H - n + 0) from Int32.sub_add_cancel _ _]
      rfl
    rw [hM]
    dsimp only
    rw [hX, bnd1_s, hlen]
    by_cases hp : p2 = 0
    · rw [if_pos hp, if_pos hp]
      exact ⟨nI b2, (v0.1, v0.2.1, v0.2.2.1, v0.2.2.2.1, (u.1, u.2.1, u.2.2.1, nI b2, nI s2), v0.2.2.2.2.2.1, v0.2.2.2.2.2.2.1, v0.2.2.2.2.2.2.2), (0, v.2), rfl, rfl, rfl, rfl, rfl, rfl⟩
    · rw [if_neg hp, if_neg hp]
      refine ⟨nI (H - n + s2), (v0.1, v0.2.1, v0.2.2.1, v0.2.2.2.1, (u.1, u.2.1, u.2.2.1, nI b2, nI s2), v0.2.2.2.2.2.1, v0.2.2.2.2.2.2.1, v0.2.2.2.2.2.2.2), (0, v.2), rfl, ?_, rfl, rfl, rfl, rfl⟩
      show some (nI H - nI n + nI s2, _) = _
      rw [pk_sub d3, nI_add]
end LO
