section XS
theorem fst_eq (p : Nat → Bool) (d : Nat) : ∀ (t m a : Nat), (∀ j, a ≤ j → j < a + t → p j = false) → t ≤ m → (t = m ∨ p (a + t) = true) → fstk p d a m = if t = m then d else a + t := by
  intro t
  induction t with
  | zero =>
    intro m a h1 h2 h3
    cases m with
    | zero => rfl
    | succ m =>
      rcases h3 with h | h
      · omega
      · unfold fstk
        rw [show p a = true from h, if_pos rfl, if_neg (by omega), Nat.add_zero]
  | succ t ih =>
    intro m a h1 h2 h3
    obtain ⟨m, rfl⟩ : ∃ z, m = z + 1 := ⟨m - 1, by omega⟩
    unfold fstk
    rw [h1 a (by omega) (by omega), if_neg (by decide), ih m (a + 1) (fun j a1 a2 => h1 j (by omega) (by omega)) (by omega) (by rcases h3 with h | h; exact Or.inl (by omega); exact Or.inr (by rw [show a + 1 + t = a + (t + 1) by omega]; exact h))]
    by_cases h : t = m
    · rw [if_pos h, if_pos (by omega)]
    · rw [if_neg h, if_neg (by omega)]; omega
theorem fst_shift (p : Nat → Bool) (d : Nat) : ∀ (m a : Nat), fstk (fun k => p (k - 1)) (d + 1) (a + 1) m = fstk p d a m + 1
  | 0, _ => rfl
  | m + 1, a => by
    have ih := fst_shift p d m (a + 1)
    unfold fstk
    rw [Nat.add_sub_cancel]
    by_cases h : p a = true
    · rw [if_pos h, if_pos h]
    · rw [if_neg h, if_neg h]; exact ih
theorem lmP_eq (c lg W : Nat) (hW : 1 ≤ W) : lmP c lg W = lmW c lg (W - 1) + 1 := by
  unfold lmP lmW
  rw [show W + 1 = (W - 1 + 1) + 1 by omega]
  exact fst_shift (fun k => rareb (TS c (W - 1) k) (4 * (W - 1)) lg) (W - 1 + 1) (W - 1) 1
theorem lmC_eq (lg W : Nat) (hW : 1 ≤ W) : lmC lg W = lmW 8 lg (W - 1) := by
  unfold lmC lmW
  rw [show W - 1 + 1 = W by omega]
theorem x_least {T : Nat → Int64} {c n lg : Nat} (rest : Int32 × Int32 × Int32) (c1 : 8 ≤ c) (c2 : c ≤ 15) (hn : n ≤ 15) (hl : lg ≤ 40) (hT : ∀ j, j < 17 → T j = lN (TS c n j)) : f_X2_leastBy (T, nI n, rest) (nI lg) = some (nI (lmW c lg n)) := by
  unfold f_X2_leastBy
  dsimp only
  rw [bnd_e, bnd_e, show (4 : Int32) * nI n = nI (4 * n) from pk_mul 4 n, nI_1]
  by_cases hlb : lg ≤ 4 * n
  · rw [pk_sub hlb, if_pos (show (0 : Int32) ≤ nI (4 * n - lg) from nI_pos' (by omega)), bnd_e, bnd_e, sh_pow _ (by omega)]
    have e1 : jmin (nI n) 15 = nI n := by
      unfold jmin
      rw [if_neg (show ¬ (15 : Int32) < nI n from nI_nlt (a := 15) (by omega) (by decide))]
    rw [e1]
    have hG : ∀ j, rareb (TS c n j) (4 * n) lg = decide (TS c n j ≤ 2 ^ (4 * n - lg)) := fun j => by unfold rareb; rw [if_pos hlb]
    have hp : 2 ^ (4 * n - lg) ≤ 2 ^ 60 := Nat.pow_le_pow_right (by decide) (by omega)
    have mono : ∀ (e j : Nat), j + e ≤ 16 → TS c n (j + e) ≤ TS c n j := by
      intro e
      induction e with
      | zero => intro j _; exact Nat.le_refl _
      | succ e ih =>
        intro j hj
        exact Nat.le_trans (by rw [show j + (e + 1) = (j + e) + 1 by omega]; exact TS_mono c (by omega) n (by omega) (j + e) (by omega)) (ih j (by omega))
    have loop : ∀ (k fu : Nat), k ≤ n → k < fu → (∀ j, k < j → j ≤ n → TS c n j ≤ 2 ^ (4 * n - lg)) → fb_X2_leastBy_38 (T, nI n, rest) fu (nI (k + 1)) (lN (2 ^ (4 * n - lg))) (nI k) = some (nI (lmW c lg n)) := by
      intro k
      induction k with
      | zero =>
        intro fu hk hf hh
        obtain ⟨fu, rfl⟩ : ∃ m, fu = m + 1 := ⟨fu - 1, by omega⟩
        unfold fb_X2_leastBy_38 fl_X2_leastBy_38
        rw [if_pos (by decide)]
        have : lmW c lg n = 1 := by
          unfold lmW
          rw [fst_eq _ _ 0 n 1 (fun j a1 a2 => absurd a2 (by omega)) (by omega) (by
            rcases Nat.eq_zero_or_pos n with z | z
            · exact Or.inl z.symm
            · exact Or.inr (by rw [hG]; exact decide_eq_true (hh 1 (by omega) (by omega))))]
          by_cases h : 0 = n
          · rw [if_pos h]; omega
          · rw [if_neg h]
        rw [this]
      | succ k ih =>
        intro fu hk hf hh
        obtain ⟨fu, rfl⟩ : ∃ m, fu = m + 1 := ⟨fu - 1, by omega⟩
        unfold fb_X2_leastBy_38 fl_X2_leastBy_38
        rw [if_neg (show ¬ nI (k + 1) < (1 : Int32) from nI_nlt (b := 1) (by omega) (by omega)), chk_nI (by omega) (by decide), nI_clamp (by omega)]
        dsimp only
        have hTk := hT (k + 1) (by omega)
        by_cases hlt : 2 ^ (4 * n - lg) < TS c n (k + 1)
        · rw [if_pos (show lN (2 ^ (4 * n - lg)) < T (k + 1) by rw [hTk, lN_ltI (by omega) (Nat.lt_of_lt_of_le (TS_lt c (by omega) n (by omega) _ (by omega)) (by decide))]; exact hlt)]
          have : lmW c lg n = k + 1 + 1 := by
            unfold lmW
            rw [fst_eq _ _ (k + 1) n 1 (fun j a1 a2 => by
              rw [hG]
              apply decide_eq_false
              have := mono (k + 1 - j) j (by omega)
              rw [show j + (k + 1 - j) = k + 1 by omega] at this
              omega) (by omega) (by
              by_cases hkn : k + 1 = n
              · exact Or.inl hkn
              · exact Or.inr (by rw [hG]; exact decide_eq_true (hh (1 + (k + 1)) (by omega) (by omega))))]
            by_cases h : k + 1 = n
            · rw [if_pos h, h]
            · rw [if_neg h]; omega
          rw [this]
        · rw [if_neg (show ¬ lN (2 ^ (4 * n - lg)) < T (k + 1) by rw [hTk, lN_ltI (by omega) (Nat.lt_of_lt_of_le (TS_lt c (by omega) n (by omega) _ (by omega)) (by decide))]; exact hlt), bnd_e, add_m1, nI_pred]
          exact ih fu (by omega) (by omega) (fun j a1 a2 => by
            by_cases hj : j = k + 1
            · subst hj; omega
            · exact hh j (by omega) a2)
    exact loop n FU (by omega) (by show n < 8589934592; omega) (fun j a1 a2 => absurd a1 (by omega))
  · rw [if_neg (show ¬ (0 : Int32) ≤ nI (4 * n) - nI lg from Int32.not_le.mpr (pk_sneg (by omega) (by omega)))]
    have : lmW c lg n = n + 1 := by
      unfold lmW
      rw [fst_eq _ _ n n 1 (fun j a1 a2 => by
        unfold rareb
        rw [if_neg hlb]
        exact decide_eq_false (by have := TS_pos c (by omega) c1 n (by omega) j (by omega); omega)) (by omega) (Or.inl rfl), if_pos rfl]
    rw [this]
theorem x_lims (l : V2) {c lg W : Nat} (c1 : 8 ≤ c) (c2 : c ≤ 15) (l1 : 1 ≤ lg) (l2 : lg ≤ 40) (w1 : 4 ≤ W) (w2 : W ≤ 15) : ∃ (T : Nat → Int64) (tr : Int32), f_X2_setLimits l (nI c) (nI lg) (nI W) = some (T, tr, nI (lmR c lg), nI (lmP c lg W), nI (lmC lg W)) := by
  obtain ⟨T1, a1, a2⟩ := x_fill (l.1, l.2.1, nI (lmR c lg), l.2.2.2) (c := c) (n := W - 1) c2 (by omega)
  obtain ⟨T2, b1, b2⟩ := x_fill (T1, nI (W - 1), nI (lmR c lg), nI (lmP c lg W), l.2.2.2.2) (c := 8) (n := W - 1) (by decide) (by omega)
  refine ⟨T2, nI (W - 1), ?_⟩
  unfold f_X2_setLimits
  rw [x_rep c (by omega) c1 lg (by omega) l1, bnd1_s, show nI W - 1 = nI (W - 1) from pk_sub (b := 1) (by omega), a1, bnd1_s, x_least _ c1 c2 (by omega) l2 a2, bnd1_s, bnd_e, nI_1, ← lmP_eq c lg W (by omega), show (8 : Int32) = nI 8 from rfl]
  dsimp only
  rw [b1, bnd1_s, x_least _ (by decide) (by decide) (by omega) l2 b2, bnd1_s, ← lmC_eq lg W (by omega)]
/-- begin(): all is as at first, but for the SETTINGS -/
theorem begin_rel {B : Nat} (w : V10) {F : Nat → Int32} {c lg W BL o : Nat} (hSV : SV w.1.1 c lg W BL o) (hS : RS w.1 F) (h22 : F 22 = F 8) (h0 : ∀ j, 23 ≤ j → j < 942 → F j = nI 0) : ∃ w2 : V10, f_X10_begin w = some w2 ∧ R B w2 F ∧ w2.1 = w.1 ∧ w2.2.2.2.2.2.2.2.1 = (w.2.2.2.2.2.2.2.1.1, 0, 0, -1) := by
  have hSV0 := hSV
  obtain ⟨g0, g1, g2, g3, g4, g5, g6, g7, g8, g9, g10, g11, g12, g13, g14⟩ := hSV
  obtain ⟨T, tr, hl⟩ := x_lims w.2.1 (c := c) (lg := lg) (W := W) g1 g2 g4 g5 g7 g8
  refine ⟨(w.1, (T, tr, nI (lmR c lg), nI (lmP c lg W), nI (lmC lg W)), (w.1.1 8, 0, 0), (0, 0, 0, 0, 0, 0), ((w.2.2.2.2.1.1.1, 0, 0), 0, 0, 0, 0, 0, 0), (w.2.2.2.2.2.1.1, 0, 0), (w.2.2.2.2.2.2.1.1, w.2.2.2.2.2.2.1.2.1, 0), (w.2.2.2.2.2.2.2.1.1, 0, 0, -1), 0, 0, 0, 0, 0, 0), ?_, ?_, rfl, rfl⟩
  · unfold f_X10_begin
    rw [show f_X7_valueOf w.1 (0 : Int32) = f_X7_valueOf w.1 (nI 0) from rfl, show f_X7_valueOf w.1 (1 : Int32) = f_X7_valueOf w.1 (nI 1) from rfl, show f_X7_valueOf w.1 (2 : Int32) = f_X7_valueOf w.1 (nI 2) from rfl, show f_X7_valueOf w.1 (8 : Int32) = f_X7_valueOf w.1 (nI 8) from rfl, val_nI _ (by decide), val_nI _ (by decide), val_nI _ (by decide), val_nI _ (by decide), bnd1_s, bnd1_s, bnd1_s, g0, g3, g6, hl, bnd1_s, bnd1_s]
    rfl
  · refine ⟨c, lg, W, BL, o, hSV0, hS, ⟨rfl, rfl, rfl⟩, ⟨?_, h0 23 (by omega) (by omega), h0 24 (by omega) (by omega), Or.inl rfl⟩, ⟨0, 0, 0, by omega, by omega, by omega, h0 30 (by omega) (by omega), rfl, h0 31 (by omega) (by omega), rfl, h0 33 (by omega) (by omega), h0 34 (by omega) (by omega), h0 35 (by omega) (by omega), by omega, by omega, fun h => absurd h (by omega), fun h => absurd h (by omega), fun _ => ⟨rfl, rfl⟩⟩, ⟨⟨0, 0, by omega, by omega, rfl, rfl, h0 43 (by omega) (by omega), fun k hk => absurd hk (by omega)⟩, 0, 0, by omega, by omega, rfl, h0 38 (by omega) (by omega), rfl, h0 37 (by omega) (by omega), h0 39 (by omega) (by omega), h0 40 (by omega) (by omega), h0 41 (by omega) (by omega), h0 42 (by omega) (by omega)⟩, ⟨0, 0, by omega, by omega, rfl, rfl, h0 300 (by omega) (by omega), fun k hk => absurd hk (by omega)⟩, ⟨0, by omega, rfl, h0 701 (by omega) (by omega), fun i hi => absurd hi (by omega)⟩, h0 25 (by omega) (by omega), h0 26 (by omega) (by omega), h0 27 (by omega) (by omega), h0 28 (by omega) (by omega), h0 29 (by omega) (by omega), fun h => absurd rfl h, Or.inl rfl⟩
    show F 22 = w.1.1 8
    rw [h22]; exact hS.1 8 (by decide)
end XS
