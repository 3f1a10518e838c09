section mp_43_xl
section XL
theorem updL_s (f : Nat → Int64) (k : Nat) (x : Int64) : vp_updL f k x k = x := if_pos rfl
theorem updL_n {f : Nat → Int64} {k j : Nat} {x : Int64} (h : j ≠ k) : vp_updL f k x j = f j := if_neg h
theorem zz_get (a b : Nat) : ∀ (l : List Nat) (y j : Nat), (List.zipWith (· + ·) (l.map (· * a) ++ [0]) (y :: l.map (· * b))).getD j 0 = l.getD j 0 * a + (if j = 0 then y else l.getD (j - 1) 0 * b)
  | [], y, j => by
    cases j with
    | zero => simp
    | succ j => simp
  | x :: l, y, j => by
    have ih := zz_get a b l (x * b)
    cases j with
    | zero => simp
    | succ j =>
      have h1 := ih j
      show (List.zipWith (· + ·) (l.map (· * a) ++ [0]) (x * b :: l.map (· * b))).getD j 0 = l.getD j 0 * a + (if j + 1 = 0 then y else (x :: l).getD (j + 1 - 1) 0 * b)
      rw [h1, if_neg (show ¬ j + 1 = 0 by omega)]
      cases j with
      | zero => rfl
      | succ j => rw [if_neg (show ¬ j + 1 = 0 by omega)]; rfl
/-- Pascal's numbers -/
def pq (c n j : Nat) : Nat := (prow c n).getD j 0
theorem pq_0 (c n : Nat) : pq c (n + 1) 0 = pq c n 0 * (16 - c) := by
  show (rstep c (prow c n)).getD 0 0 = _
  unfold rstep
  rw [zz_get, if_pos rfl, Nat.add_zero]
  rfl
theorem pq_s (c n j : Nat) : pq c (n + 1) (j + 1) = pq c n (j + 1) * (16 - c) + pq c n j * c := by
  show (rstep c (prow c n)).getD (j + 1) 0 = _
  unfold rstep
  rw [zz_get, if_neg (by omega)]
  rfl
theorem prow_len (c : Nat) : ∀ n, (prow c n).length = n + 1
  | 0 => rfl
  | n + 1 => by
    have ih := prow_len c n
    show (rstep c (prow c n)).length = _
    unfold rstep
    simp [ih]
theorem pq_out (c n j : Nat) (h : n < j) : pq c n j = 0 := by
  unfold pq
  rw [List.getD_eq_getElem?_getD, List.getElem?_eq_none (by rw [prow_len]; omega)]
  rfl
theorem TS_step (c n k : Nat) : TS c n k = pq c n k + TS c n (k + 1) := by
  unfold TS pq
  by_cases h : k < (prow c n).length
  · rw [List.drop_eq_getElem_cons h, List.sum_cons, List.getD_eq_getElem?_getD, List.getElem?_eq_getElem h]
    rfl
  · rw [List.drop_eq_nil_of_le (by omega), List.drop_eq_nil_of_le (by omega), List.getD_eq_getElem?_getD, List.getElem?_eq_none (by omega)]
    rfl
theorem TS_out (c n j : Nat) (h : n < j) : TS c n j = 0 := by
  unfold TS
  rw [List.drop_eq_nil_of_le (by rw [prow_len]; omega)]
  rfl
theorem x_zero : ∀ (d fu k : Nat) (T : Nat → Int64), k + d = 17 → d < fu → ∃ T2 : Nat → Int64, fb_J7_fill_d0a16_6 17 fu T 0 (nI k) (nI 17) = some T2 ∧ (∀ j, k ≤ j → j < 17 → T2 j = 0) ∧ ∀ j, j < k → T2 j = T j := by
  intro d
  induction d with
  | zero =>
    intro fu k T hk hf
    obtain ⟨fu, rfl⟩ : ∃ m, fu = m + 1 := ⟨fu - 1, by omega⟩
    refine ⟨T, ?_, fun j a b => absurd b (by omega), fun _ _ => rfl⟩
    unfold fb_J7_fill_d0a16_6 fl_J7_fill_d0a16_6
    rw [if_pos (nI_le (by omega) (by omega))]
  | succ d ih =>
    intro fu k T hk hf
    obtain ⟨fu, rfl⟩ : ∃ m, fu = m + 1 := ⟨fu - 1, by omega⟩
    obtain ⟨T2, i1, i2, i3⟩ := ih fu (k + 1) (vp_updL T k 0) (by omega) (by omega)
    refine ⟨T2, ?_, fun j a b => ?_, fun j a => ?_⟩
    · unfold fb_J7_fill_d0a16_6 fl_J7_fill_d0a16_6
      rw [if_neg (nI_ge (by omega) (by omega)), chk_nI (by omega) (by decide), nI_clamp (by omega), bnd_e, bnd_e, nI_1]
      exact i1
    · by_cases hj : j = k
      · subst hj
        rw [i3 j (by omega), updL_s]
      · exact i2 j (by omega) b
    · rw [i3 j (by omega), updL_n (by omega)]
theorem x_inner {c : Nat} (hc : c ≤ 15) (P Q : Nat → Nat) (hQ0 : Q 0 = P 0 * (16 - c)) (hQ : ∀ j, Q (j + 1) = P (j + 1) * (16 - c) + P j * c) (k31 : V2 → Int32 → Int32 → Option V2) (tr : Int32) (rest : Int32 × Int32 × Int32) {i : Nat} (hi : i < 15) : ∀ (y fu : Nat) (T : Nat → Int64), y ≤ i + 1 → y < fu → (∀ j, j < 17 → T j = lN (if j < y then P j else if j = y then P y * (16 - c) else Q j)) → ∃ T2 : Nat → Int64, fb_X2_fill_48 k31 fu (T, tr, rest) (nI c) (nI i) (nI y - 1) = k31 (T2, tr, rest) (nI c) (nI (i + 1)) ∧ ∀ j, j < 17 → T2 j = lN (Q j) := by
  intro y
  induction y with
  | zero =>
    intro fu T hy hf hT
    obtain ⟨fu, rfl⟩ : ∃ m, fu = m + 1 := ⟨fu - 1, by omega⟩
    refine ⟨T, ?_, fun j hj => ?_⟩
    · show fl_X2_fill_48 k31 (fb_X2_fill_48 k31 fu) (T, tr, rest) (nI c) (nI i) (nI 0 - 1) = _
      unfold fl_X2_fill_48
      rw [if_pos (by decide), bnd_e, nI_1]
    · rw [hT j hj, if_neg (by omega)]
      by_cases h : j = 0
      · subst h; rw [if_pos rfl, hQ0]
      · rw [if_neg h]
  | succ y ih =>
    intro fu T hy hf hT
    obtain ⟨fu, rfl⟩ : ∃ m, fu = m + 1 := ⟨fu - 1, by omega⟩
    have t1 : T (y + 1) = lN (P (y + 1) * (16 - c)) := by rw [hT (y + 1) (by omega), if_neg (by omega), if_pos rfl]
    have t0 : T y = lN (P y) := by rw [hT y (by omega), if_pos (by omega)]
    obtain ⟨T2, i1, i2⟩ := ih fu (vp_updL (vp_updL T (y + 1) (lN (Q (y + 1)))) y (lN (P y * (16 - c)))) (by omega) (by omega) (fun j hj => by
      by_cases h1 : j = y
      · subst h1
        rw [updL_s, if_neg (by omega), if_pos rfl]
      · rw [updL_n h1]
        by_cases h2 : j = y + 1
        · subst h2
          rw [updL_s, if_neg (by omega), if_neg (by omega)]
        · rw [updL_n h2, hT j hj]
          by_cases h3 : j < y
          · rw [if_pos (by omega), if_pos h3]
          · rw [if_neg (by omega), if_neg h2, if_neg h3, if_neg h1])
    refine ⟨T2, ?_, i2⟩
    show fl_X2_fill_48 k31 (fb_X2_fill_48 k31 fu) (T, tr, rest) (nI c) (nI i) (nI (y + 1) - 1) = _
    unfold fl_X2_fill_48
    rw [nI_pred, if_neg (nI_pos (by omega)), bnd_e, nI_1, chk_nI (by omega) (by decide), chk_nI (by omega) (by decide), chk_nI (by omega) (by decide), bnd_e, chk_nI (by omega) (by decide), chk_nI (by omega) (by decide), bnd_e, bnd_e, nI_clamp (by omega), nI_clamp (by omega), add_m1]
    dsimp only
    rw [t1, t0, updL_n (show y ≠ y + 1 by omega), t0, show (16 : Int32) - nI c = nI (16 - c) from pk_sub (a := 16) (by omega), nI_l (by omega), nI_l (by omega), lN_mul, lN_add, lN_mul, ← hQ y]
    exact i1
theorem x_outer {c n : Nat} (hc : c ≤ 15) (hn : n ≤ 15) (rest : Int32 × Int32 × Int32) : ∀ (d fu i : Nat) (T : Nat → Int64), i + d = n → d < fu → (∀ j, j < 17 → T j = lN (pq c i j)) → ∃ T2 : Nat → Int64, fb_X2_fill_31 fu (T, nI n, rest) (nI c) (nI i) = fc_X2_fill_102 (T2, nI n, rest) ∧ ∀ j, j < 17 → T2 j = lN (pq c n j) := by
  intro d
  induction d with
  | zero =>
    intro fu i T hi hf hT
    obtain ⟨fu, rfl⟩ : ∃ m, fu = m + 1 := ⟨fu - 1, by omega⟩
    have hi : i = n := by omega
    subst hi
    refine ⟨T, ?_, hT⟩
    show fl_X2_fill_31 (fb_X2_fill_31 fu) (T, nI i, rest) (nI c) (nI i) = _
    unfold fl_X2_fill_31
    rw [if_pos (Int32.le_refl _)]
  | succ d ih =>
    intro fu i T hi hf hT
    obtain ⟨fu, rfl⟩ : ∃ m, fu = m + 1 := ⟨fu - 1, by omega⟩
    obtain ⟨T1, a1, a2⟩ := x_inner hc (pq c i) (pq c (i + 1)) (pq_0 c i) (pq_s c i) (fb_X2_fill_31 fu) (nI n) rest (i := i) (by omega) (i + 1) FU T (by omega) (by show i + 1 < 8589934592; omega) (fun j hj => by
      rw [hT j hj]
      by_cases h1 : j < i + 1
      · rw [if_pos h1]
      · rw [if_neg h1, pq_out c i j (by omega)]
        by_cases h2 : j = i + 1
        · rw [if_pos h2, pq_out c i (i + 1) (by omega), Nat.zero_mul]
        · rw [if_neg h2, pq_out c (i + 1) j (by omega)])
    obtain ⟨T2, b1, b2⟩ := ih fu (i + 1) T1 (by omega) (by omega) a2
    refine ⟨T2, ?_, b2⟩
    show fl_X2_fill_31 (fb_X2_fill_31 fu) (T, nI n, rest) (nI c) (nI i) = _
    unfold fl_X2_fill_31
    rw [if_neg (nI_ge (by omega) (by omega)), if_neg (show ¬ (15 : Int32) ≤ nI i from nI_ge (b := 15) (by omega) (by decide))]
    rw [nI_pred] at a1
    rw [a1, b1]
theorem x_sums {c n : Nat} (hn : n ≤ 15) (tr : Int32) (rest : Int32 × Int32 × Int32) : ∀ (y fu : Nat) (T : Nat → Int64), y ≤ n → y < fu → (∀ j, j < 17 → T j = lN (if j < y then pq c n j else TS c n j)) → ∃ T2 : Nat → Int64, fb_X2_fill_114 fu (T, tr, rest) (nI y - 1) = some (T2, tr, rest) ∧ ∀ j, j < 17 → T2 j = lN (TS c n j) := by
  intro y
  induction y with
  | zero =>
    intro fu T hy hf hT
    obtain ⟨fu, rfl⟩ : ∃ m, fu = m + 1 := ⟨fu - 1, by omega⟩
    refine ⟨T, ?_, fun j hj => ?_⟩
    · show fl_X2_fill_114 (fb_X2_fill_114 fu) (T, tr, rest) (nI 0 - 1) = _
      unfold fl_X2_fill_114
      rw [if_pos (by decide)]
    · rw [hT j hj, if_neg (by omega)]
  | succ y ih =>
    intro fu T hy hf hT
    obtain ⟨fu, rfl⟩ : ∃ m, fu = m + 1 := ⟨fu - 1, by omega⟩
    have t0 : T y = lN (pq c n y) := by rw [hT y (by omega), if_pos (by omega)]
    have t1 : T (y + 1) = lN (TS c n (y + 1)) := by rw [hT (y + 1) (by omega), if_neg (by omega)]
    obtain ⟨T2, i1, i2⟩ := ih fu (vp_updL T y (lN (TS c n y))) (by omega) (by omega) (fun j hj => by
      by_cases h1 : j = y
      · subst h1
        rw [updL_s, if_neg (by omega)]
      · rw [updL_n h1, hT j hj]
        by_cases h2 : j < y
        · rw [if_pos (by omega), if_pos h2]
        · rw [if_neg (by omega), if_neg h2])
    refine ⟨T2, ?_, i2⟩
    show fl_X2_fill_114 (fb_X2_fill_114 fu) (T, tr, rest) (nI (y + 1) - 1) = _
    unfold fl_X2_fill_114
    rw [nI_pred, if_neg (nI_pos (by omega)), chk_nI (by omega) (by decide), nI_1, chk_nI (by omega) (by decide), chk_nI (by omega) (by decide), bnd_e, bnd_e, nI_clamp (by omega), nI_clamp (by omega), add_m1]
    dsimp only
    rw [t0, t1, lN_add, ← TS_step]
    exact i1
theorem x_fill (v : V2) {c n : Nat} (hc : c ≤ 15) (hn : n ≤ 15) : ∃ T : Nat → Int64, f_X2_fill v (nI n) (nI c) = some (T, nI n, v.2.2) ∧ ∀ j, j < 17 → T j = lN (TS c n j) := by
  obtain ⟨T0, a1, a2, -⟩ := x_zero 17 FU 0 v.1 (by omega) (by decide)
  obtain ⟨T1, b1, b2⟩ := x_outer hc hn v.2.2 n FU 0 (vp_updL T0 0 1) (by omega) (by show n < 8589934592; omega) (fun j hj => by
    by_cases h : j = 0
    · subst h; rw [updL_s]; rfl
    · rw [updL_n h, a2 j (by omega) hj, pq_out c 0 j (by omega)]; rfl)
  obtain ⟨T2, d1, d2⟩ := x_sums (c := c) hn (nI n) v.2.2 n FU T1 (by omega) (by show n < 8589934592; omega) (fun j hj => by
    rw [b2 j hj]
    by_cases h : j < n
    · rw [if_pos h]
    · rw [if_neg h, TS_step, TS_out c n (j + 1) (by omega), Nat.add_zero])
  refine ⟨T2, ?_, d2⟩
  have e1 : jmin (nI n) 15 = nI n := by
    unfold jmin
    rw [if_neg (show ¬ (15 : Int32) < nI n from nI_nlt (a := 15) (by omega) (by decide))]
  have e2 : jmax 0 (nI n) = nI n := by
    unfold jmax
    by_cases h : (0 : Int32) < nI n
    · rw [if_pos h]
    · rw [if_neg h]
      have : n = 0 := by
        rcases Nat.eq_zero_or_pos n with z | z
        · exact z
        · exact absurd (nI_lt (a := 0) z (by omega)) h
      rw [this]; rfl
  unfold f_X2_fill f_J7_fill_d0a16
  rw [bnd_e, e1, bnd_e, e2, bnd_e, show Int32.ofNat 17 = nI 17 from rfl, show (0 : Int32) = nI 0 from rfl, a1, bnd1_s, chk_nI (by decide) (by decide), nI_clamp (by decide), bnd_e, b1]
  unfold fc_X2_fill_102
  dsimp only
  rw [e1, bnd_e, bnd_e]
  exact d1
end XL
end mp_43_xl
section mp_44_xs
section XS
theorem fst_eq (p : Nat → Bool) (d : Nat) : ∀ (t m a : Nat), (∀ j, a ≤ j → j < a + t → p j = false) → t ≤ m → (t = m ∨ p (a + t) = true) → fstk p d a m = if t = m then d else a + t := by
  intro t
  induction t with
  | zero =>
    intro m a h1 h2 h3
    cases m with
    | zero => rfl
    | succ m =>
      rcases h3 with h | h
      · omega
      · unfold fstk
        rw [show p a = true from h, if_pos rfl, if_neg (by omega), Nat.add_zero]
  | succ t ih =>
    intro m a h1 h2 h3
    obtain ⟨m, rfl⟩ : ∃ z, m = z + 1 := ⟨m - 1, by omega⟩
    unfold fstk
    rw [h1 a (by omega) (by omega), if_neg (by decide), ih m (a + 1) (fun j a1 a2 => h1 j (by omega) (by omega)) (by omega) (by rcases h3 with h | h; exact Or.inl (by omega); exact Or.inr (by rw [show a + 1 + t = a + (t + 1) by omega]; exact h))]
    by_cases h : t = m
    · rw [if_pos h, if_pos (by omega)]
    · rw [if_neg h, if_neg (by omega)]; omega
theorem fst_shift (p : Nat → Bool) (d : Nat) : ∀ (m a : Nat), fstk (fun k => p (k - 1)) (d + 1) (a + 1) m = fstk p d a m + 1
  | 0, _ => rfl
  | m + 1, a => by
    have ih := fst_shift p d m (a + 1)
    unfold fstk
    rw [Nat.add_sub_cancel]
    by_cases h : p a = true
    · rw [if_pos h, if_pos h]
    · rw [if_neg h, if_neg h]; exact ih
theorem lmP_eq (c lg W : Nat) (hW : 1 ≤ W) : lmP c lg W = lmW c lg (W - 1) + 1 := by
  unfold lmP lmW
  rw [show W + 1 = (W - 1 + 1) + 1 by omega]
  exact fst_shift (fun k => rareb (TS c (W - 1) k) (4 * (W - 1)) lg) (W - 1 + 1) (W - 1) 1
theorem lmC_eq (lg W : Nat) (hW : 1 ≤ W) : lmC lg W = lmW 8 lg (W - 1) := by
  unfold lmC lmW
  rw [show W - 1 + 1 = W by omega]
theorem x_least {T : Nat → Int64} {c n lg : Nat} (rest : Int32 × Int32 × Int32) (c1 : 8 ≤ c) (c2 : c ≤ 15) (hn : n ≤ 15) (hl : lg ≤ 40) (hT : ∀ j, j < 17 → T j = lN (TS c n j)) : f_X2_leastBy (T, nI n, rest) (nI lg) = some (nI (lmW c lg n)) := by
  unfold f_X2_leastBy
  dsimp only
  rw [bnd_e, bnd_e, show (4 : Int32) * nI n = nI (4 * n) from pk_mul 4 n, nI_1]
  by_cases hlb : lg ≤ 4 * n
  · rw [pk_sub hlb, if_pos (show (0 : Int32) ≤ nI (4 * n - lg) from nI_pos' (by omega)), bnd_e, bnd_e, sh_pow _ (by omega)]
    have e1 : jmin (nI n) 15 = nI n := by
      unfold jmin
      rw [if_neg (show ¬ (15 : Int32) < nI n from nI_nlt (a := 15) (by omega) (by decide))]
    rw [e1]
    have hG : ∀ j, rareb (TS c n j) (4 * n) lg = decide (TS c n j ≤ 2 ^ (4 * n - lg)) := fun j => by unfold rareb; rw [if_pos hlb]
    have hp : 2 ^ (4 * n - lg) ≤ 2 ^ 60 := Nat.pow_le_pow_right (by decide) (by omega)
    have mono : ∀ (e j : Nat), j + e ≤ 16 → TS c n (j + e) ≤ TS c n j := by
      intro e
      induction e with
      | zero => intro j _; exact Nat.le_refl _
      | succ e ih =>
        intro j hj
        exact Nat.le_trans (by rw [show j + (e + 1) = (j + e) + 1 by omega]; exact TS_mono c (by omega) n (by omega) (j + e) (by omega)) (ih j (by omega))
    have loop : ∀ (k fu : Nat), k ≤ n → k < fu → (∀ j, k < j → j ≤ n → TS c n j ≤ 2 ^ (4 * n - lg)) → fb_X2_leastBy_38 (T, nI n, rest) fu (nI (k + 1)) (lN (2 ^ (4 * n - lg))) (nI k) = some (nI (lmW c lg n)) := by
      intro k
      induction k with
      | zero =>
        intro fu hk hf hh
        obtain ⟨fu, rfl⟩ : ∃ m, fu = m + 1 := ⟨fu - 1, by omega⟩
        unfold fb_X2_leastBy_38 fl_X2_leastBy_38
        rw [if_pos (by decide)]
        have : lmW c lg n = 1 := by
          unfold lmW
          rw [fst_eq _ _ 0 n 1 (fun j a1 a2 => absurd a2 (by omega)) (by omega) (by
            rcases Nat.eq_zero_or_pos n with z | z
            · exact Or.inl z.symm
            · exact Or.inr (by rw [hG]; exact decide_eq_true (hh 1 (by omega) (by omega))))]
          by_cases h : 0 = n
          · rw [if_pos h]; omega
          · rw [if_neg h]
        rw [this]
      | succ k ih =>
        intro fu hk hf hh
        obtain ⟨fu, rfl⟩ : ∃ m, fu = m + 1 := ⟨fu - 1, by omega⟩
        unfold fb_X2_leastBy_38 fl_X2_leastBy_38
        rw [if_neg (show ¬ nI (k + 1) < (1 : Int32) from nI_nlt (b := 1) (by omega) (by omega)), chk_nI (by omega) (by decide), nI_clamp (by omega)]
        dsimp only
        have hTk := hT (k + 1) (by omega)
        by_cases hlt : 2 ^ (4 * n - lg) < TS c n (k + 1)
        · rw [if_pos (show lN (2 ^ (4 * n - lg)) < T (k + 1) by rw [hTk, lN_ltI (by omega) (Nat.lt_of_lt_of_le (TS_lt c (by omega) n (by omega) _ (by omega)) (by decide))]; exact hlt)]
          have : lmW c lg n = k + 1 + 1 := by
            unfold lmW
            rw [fst_eq _ _ (k + 1) n 1 (fun j a1 a2 => by
              rw [hG]
              apply decide_eq_false
              have := mono (k + 1 - j) j (by omega)
              rw [show j + (k + 1 - j) = k + 1 by omega] at this
              omega) (by omega) (by
              by_cases hkn : k + 1 = n
              · exact Or.inl hkn
              · exact Or.inr (by rw [hG]; exact decide_eq_true (hh (1 + (k + 1)) (by omega) (by omega))))]
            by_cases h : k + 1 = n
            · rw [if_pos h, h]
            · rw [if_neg h]; omega
          rw [this]
        · rw [if_neg (show ¬ lN (2 ^ (4 * n - lg)) < T (k + 1) by rw [hTk, lN_ltI (by omega) (Nat.lt_of_lt_of_le (TS_lt c (by omega) n (by omega) _ (by omega)) (by decide))]; exact hlt), bnd_e, add_m1, nI_pred]
          exact ih fu (by omega) (by omega) (fun j a1 a2 => by
            by_cases hj : j = k + 1
            · subst hj; omega
            · exact hh j (by omega) a2)
    exact loop n FU (by omega) (by show n < 8589934592; omega) (fun j a1 a2 => absurd a1 (by omega))
  · rw [if_neg (show ¬ (0 : Int32) ≤ nI (4 * n) - nI lg from Int32.not_le.mpr (pk_sneg (by omega) (by omega)))]
    have : lmW c lg n = n + 1 := by
      unfold lmW
      rw [fst_eq _ _ n n 1 (fun j a1 a2 => by
        unfold rareb
        rw [if_neg hlb]
        exact decide_eq_false (by have := TS_pos c (by omega) c1 n (by omega) j (by omega); omega)) (by omega) (Or.inl rfl), if_pos rfl]
    rw [this]
theorem x_lims (l : V2) {c lg W : Nat} (c1 : 8 ≤ c) (c2 : c ≤ 15) (l1 : 1 ≤ lg) (l2 : lg ≤ 40) (w1 : 4 ≤ W) (w2 : W ≤ 15) : ∃ (T : Nat → Int64) (tr : Int32), f_X2_setLimits l (nI c) (nI lg) (nI W) = some (T, tr, nI (lmR c lg), nI (lmP c lg W), nI (lmC lg W)) := by
  obtain ⟨T1, a1, a2⟩ := x_fill (l.1, l.2.1, nI (lmR c lg), l.2.2.2) (c := c) (n := W - 1) c2 (by omega)
  obtain ⟨T2, b1, b2⟩ := x_fill (T1, nI (W - 1), nI (lmR c lg), nI (lmP c lg W), l.2.2.2.2) (c := 8) (n := W - 1) (by decide) (by omega)
  refine ⟨T2, nI (W - 1), ?_⟩
  unfold f_X2_setLimits
  rw [x_rep c (by omega) c1 lg (by omega) l1, bnd1_s, show nI W - 1 = nI (W - 1) from pk_sub (b := 1) (by omega), a1, bnd1_s, x_least _ c1 c2 (by omega) l2 a2, bnd1_s, bnd_e, nI_1, ← lmP_eq c lg W (by omega), show (8 : Int32) = nI 8 from rfl]
  dsimp only
  rw [b1, bnd1_s, x_least _ (by decide) (by decide) (by omega) l2 b2, bnd1_s, ← lmC_eq lg W (by omega)]
/-- begin(): all is as at first, but for the SETTINGS -/
theorem begin_rel {B : Nat} (w : V10) {F : Nat → Int32} {c lg W BL o : Nat} (hSV : SV w.1.1 c lg W BL o) (hS : RS w.1 F) (h22 : F 22 = F 8) (h0 : ∀ j, 23 ≤ j → j < 942 → F j = nI 0) : ∃ w2 : V10, f_X10_begin w = some w2 ∧ R B w2 F ∧ w2.1 = w.1 ∧ w2.2.2.2.2.2.2.2.1 = (w.2.2.2.2.2.2.2.1.1, 0, 0, -1) := by
  have hSV0 := hSV
  obtain ⟨g0, g1, g2, g3, g4, g5, g6, g7, g8, g9, g10, g11, g12, g13, g14⟩ := hSV
  obtain ⟨T, tr, hl⟩ := x_lims w.2.1 (c := c) (lg := lg) (W := W) g1 g2 g4 g5 g7 g8
  refine ⟨(w.1, (T, tr, nI (lmR c lg), nI (lmP c lg W), nI (lmC lg W)), (w.1.1 8, 0, 0), (0, 0, 0, 0, 0, 0), ((w.2.2.2.2.1.1.1, 0, 0), 0, 0, 0, 0, 0, 0), (w.2.2.2.2.2.1.1, 0, 0), (w.2.2.2.2.2.2.1.1, w.2.2.2.2.2.2.1.2.1, 0), (w.2.2.2.2.2.2.2.1.1, 0, 0, -1), 0, 0, 0, 0, 0, 0), ?_, ?_, rfl, rfl⟩
  · unfold f_X10_begin
    rw [show f_X7_valueOf w.1 (0 : Int32) = f_X7_valueOf w.1 (nI 0) from rfl, show f_X7_valueOf w.1 (1 : Int32) = f_X7_valueOf w.1 (nI 1) from rfl, show f_X7_valueOf w.1 (2 : Int32) = f_X7_valueOf w.1 (nI 2) from rfl, show f_X7_valueOf w.1 (8 : Int32) = f_X7_valueOf w.1 (nI 8) from rfl, val_nI _ (by decide), val_nI _ (by decide), val_nI _ (by decide), val_nI _ (by decide), bnd1_s, bnd1_s, bnd1_s, g0, g3, g6, hl, bnd1_s, bnd1_s]
    rfl
  · refine ⟨c, lg, W, BL, o, hSV0, hS, ⟨rfl, rfl, rfl⟩, ⟨?_, h0 23 (by omega) (by omega), h0 24 (by omega) (by omega), Or.inl rfl⟩, ⟨0, 0, 0, by omega, by omega, by omega, h0 30 (by omega) (by omega), rfl, h0 31 (by omega) (by omega), rfl, h0 33 (by omega) (by omega), h0 34 (by omega) (by omega), h0 35 (by omega) (by omega), by omega, by omega, fun h => absurd h (by omega), fun h => absurd h (by omega), fun _ => ⟨rfl, rfl⟩⟩, ⟨⟨0, 0, by omega, by omega, rfl, rfl, h0 43 (by omega) (by omega), fun k hk => absurd hk (by omega)⟩, 0, 0, by omega, by omega, rfl, h0 38 (by omega) (by omega), rfl, h0 37 (by omega) (by omega), h0 39 (by omega) (by omega), h0 40 (by omega) (by omega), h0 41 (by omega) (by omega), h0 42 (by omega) (by omega)⟩, ⟨0, 0, by omega, by omega, rfl, rfl, h0 300 (by omega) (by omega), fun k hk => absurd hk (by omega)⟩, ⟨0, by omega, rfl, h0 701 (by omega) (by omega), fun i hi => absurd hi (by omega)⟩, h0 25 (by omega) (by omega), h0 26 (by omega) (by omega), h0 27 (by omega) (by omega), h0 28 (by omega) (by omega), h0 29 (by omega) (by omega), fun h => absurd rfl h, Or.inl rfl⟩
    show F 22 = w.1.1 8
    rw [h22]; exact hS.1 8 (by decide)
end XS
end mp_44_xs
section mp_45_tx
section TX
theorem u64_ok : ∀ k : Nat, k < 64 → (((nI k).toInt64.toUInt64 &&& Int64.toUInt64 63).toBitVec % 64).toNat = k := by decide +kernel
theorem s64_ok : ∀ k : Nat, k < 64 → (((nI k).toInt64 &&& 63).toBitVec.smod 64).toNat = k := by decide +kernel
theorem jlushr_nat (e : Int64) {k : Nat} (hk : k < 64) : (jlushr e (nI k)).toBitVec.toNat = e.toBitVec.toNat / 2 ^ k := by
  have h : (jlushr e (nI k)).toBitVec = e.toBitVec >>> k := by
    have h1 : (jlushr e (nI k)).toBitVec = e.toBitVec >>> (((nI k).toInt64.toUInt64 &&& Int64.toUInt64 63).toBitVec % 64) := UInt64.toBitVec_shiftRight _ _
    rw [h1]
    show e.toBitVec >>> (((nI k).toInt64.toUInt64 &&& Int64.toUInt64 63).toBitVec % 64).toNat = _
    rw [u64_ok k hk]
  rw [h, BitVec.toNat_ushiftRight, Nat.shiftRight_eq_div_pow]
theorem jlshr_low (e : Int64) {k : Nat} (hk : k ≤ 56) : (jlshr e (nI k)).toBitVec.toNat % 256 = e.toBitVec.toNat / 2 ^ k % 256 := by
  have h : (jlshr e (nI k)).toBitVec = e.toBitVec.sshiftRight k := by
    show e.toBitVec.sshiftRight (((nI k).toInt64 &&& 63).toBitVec.smod 64).toNat = _
    rw [s64_ok k (by omega)]
  rw [h]
  apply Nat.eq_of_testBit_eq
  intro j
  have e256 : (256 : Nat) = 2 ^ 8 := rfl
  rw [e256, Nat.testBit_mod_two_pow, Nat.testBit_mod_two_pow, Nat.testBit_div_two_pow]
  by_cases hj : j < 8
  · rw [decide_eq_true hj, Bool.true_and, Bool.true_and]
    show (e.toBitVec.sshiftRight k).getLsbD j = e.toBitVec.getLsbD (j + k)
    rw [BitVec.getLsbD_sshiftRight]
    have h1 : k + j < 64 := by omega
    simp [h1, show j < 64 by omega, Nat.add_comm]
  · rw [decide_eq_false hj, Bool.false_and, Bool.false_and]
/-- the i-th byte of eight -/
def bt (e : Int64) (i : Nat) : Nat := e.toBitVec.toNat / 2 ^ (56 - 8 * i) % 256
theorem bt_lt (e : Int64) (i : Nat) : bt e i < 256 := Nat.mod_lt _ (by decide)
theorem ix8 {i : Nat} (hi : i < 8) : (56 : Int32) - (8 : Int32) * nI i = nI (56 - 8 * i) := by
  rw [show (8 : Int32) * nI i = nI (8 * i) from pk_mul 8 i]
  exact pk_sub (a := 56) (by omega)
theorem toI32_low (x : Int64) : (Int64.toInt32 x &&& 255) = nI (x.toBitVec.toNat % 256) := by
  rw [pk_and _ 8 (by decide)]
  congr 1
  have h : (Int64.toInt32 x).toBitVec.toNat = x.toBitVec.toNat % 2 ^ 32 := by
    show (x.toBitVec.signExtend 32).toNat = _
    rw [BitVec.signExtend_eq_setWidth_of_le _ (by decide), BitVec.toNat_setWidth]
  rw [h]
  omega
theorem x_byte (e : Int64) {i : Nat} (hi : i < 8) : f_X9_byteOf e (nI i) = some (nI (bt e i)) := by
  unfold f_X9_byteOf
  rw [ix8 hi, toI32_low, jlushr_nat e (by omega)]
  rfl
theorem m_byte (e : Int64) {i : Nat} (hi : i < 8) : (jlshr e ((56 : Int32) - (8 : Int32) * nI i) &&& (255 : Int64)) = (0 : Int64) ↔ bt e i = 0 := by
  rw [ix8 hi]
  have h : (jlshr e (nI (56 - 8 * i)) &&& (255 : Int64)).toBitVec.toNat = bt e i := by
    rw [Int64.toBitVec_and, BitVec.toNat_and, show (255 : Int64).toBitVec.toNat = 2 ^ 8 - 1 from by decide, Nat.and_two_pow_sub_one_eq_mod]
    exact jlshr_low e (by omega)
  constructor
  · intro q
    rw [← h, q]; rfl
  · intro q
    apply Int64.toBitVec_inj.mp
    apply BitVec.eq_of_toNat_eq
    rw [h, q]; rfl
theorem i8_low (x : Int32) : (x.toInt8.toInt32 &&& 255) = nI (x.toBitVec.toNat % 256) := by
  rw [pk_and _ 8 (by decide)]
  congr 1
  have h1 : x.toInt8.toBitVec.toNat = x.toBitVec.toNat % 2 ^ 8 := by
    show (x.toBitVec.signExtend 8).toNat = _
    rw [BitVec.signExtend_eq_setWidth_of_le _ (by decide), BitVec.toNat_setWidth]
  have h2 : x.toInt8.toInt32.toBitVec.toNat % 2 ^ 8 = x.toInt8.toBitVec.toNat := by
    show (x.toInt8.toBitVec.signExtend 32).toNat % 2 ^ 8 = _
    rw [BitVec.toNat_signExtend, BitVec.toNat_setWidth]
    have := x.toInt8.toBitVec.isLt
    split <;> omega
  rw [h2, h1]
theorem m_store (e : Int64) {i : Nat} (hi : i < 8) : vp_nar .byte (ji2b (Int64.toInt32 (jlshr e ((56 : Int32) - (8 : Int32) * nI i)))) &&& 255 = nI (bt e i) := by
  rw [ix8 hi]
  have h : ∀ x : Int32, vp_nar .byte (ji2b x) = x.toInt8.toInt32 := fun x => by
    unfold vp_nar ji2b
    rw [pk_nb]
  rw [h, i8_low]
  congr 1
  have h2 : (Int64.toInt32 (jlshr e (nI (56 - 8 * i)))).toBitVec.toNat = (jlshr e (nI (56 - 8 * i))).toBitVec.toNat % 2 ^ 32 := by
    show ((jlshr e (nI (56 - 8 * i))).toBitVec.signExtend 32).toNat = _
    rw [BitVec.signExtend_eq_setWidth_of_le _ (by decide), BitVec.toNat_setWidth]
  rw [h2]
  have h3 := jlshr_low e (k := 56 - 8 * i) (by omega)
  unfold bt
  omega
end TX
end mp_45_tx
section mp_46_te
section TE
/-- THE TEXT, the FAULT -/
def RT (t : V9) (F tx : Nat → Int32) : Prop := ∃ n : Nat, n ≤ 300 ∧ t.2.1 = nI n ∧ F 942 = nI n ∧ F 943 = t.2.2.1 ∧ F 944 = t.2.2.2 ∧ ∀ k, k < n → ∃ b : Nat, 0 < b ∧ b < 256 ∧ t.1 k = nI b ∧ tx k &&& 255 = nI b
theorem RT.frame {t : V9} {F F2 tx tx2 : Nat → Int32} (h : RT t F tx) (e : ∀ j, 942 ≤ j → j < 945 → F2 j = F j) (ex : ∀ j, j < 300 → tx2 j = tx j) : RT t F2 tx2 := by
  obtain ⟨n, h1, h2, h3, h4, h5, h6⟩ := h
  refine ⟨n, h1, h2, by rw [e 942 (by omega) (by omega)]; exact h3, by rw [e 943 (by omega) (by omega)]; exact h4, by rw [e 944 (by omega) (by omega)]; exact h5, fun k hk => ?_⟩
  obtain ⟨b, g1, g2, g3, g4⟩ := h6 k hk
  exact ⟨b, g1, g2, g3, by rw [ex k (by omega)]; exact g4⟩
theorem fst_ge (p : Nat → Bool) (d : Nat) : ∀ (m a : Nat), a + m ≤ d → a ≤ fstk p d a m ∧ fstk p d a m ≤ d ∧ ∀ j, a ≤ j → j < fstk p d a m → j < a + m → p j = false
  | 0, a, h => ⟨by show a ≤ d; omega, Nat.le_refl _, fun j h1 h2 h3 => absurd h3 (by omega)⟩
  | m + 1, a, h => by
    obtain ⟨h1, h2, h3⟩ := fst_ge p d m (a + 1) (by omega)
    unfold fstk
    by_cases hp : p a = true
    · rw [if_pos hp]
      exact ⟨Nat.le_refl _, by omega, fun j q1 q2 => absurd q2 (by omega)⟩
    · rw [if_neg hp]
      refine ⟨by omega, h2, fun j q1 q2 q3 => ?_⟩
      by_cases hj : j = a
      · subst hj; exact Bool.eq_false_iff.mpr hp
      · exact h3 j (by omega) q2 (by omega)
/-- how many bytes come -/
def nb (e : Int64) : Nat := fstk (fun k => decide (bt e k = 0)) 8 0 8
theorem nb_le (e : Int64) : nb e ≤ 8 := (fst_ge _ 8 8 0 (by omega)).2.1
theorem nb_pos (e : Int64) {j : Nat} (h : j < nb e) : 0 < bt e j := by
  have h1 := nb_le e
  have := (fst_ge (fun k => decide (bt e k = 0)) 8 8 0 (by omega)).2.2 j (by omega) h (by omega)
  have := of_decide_eq_false this
  omega
theorem x_cnt (t : V9) (e : Int64) : ∀ (d fu k : Nat), k + d = 8 → d < fu → fb_X9_append_2 fu t e (nI k) = fc_X9_append_22 t e (nI (fstk (fun k => decide (bt e k = 0)) 8 k d)) := by
  intro d
  induction d with
  | zero =>
    intro fu k hk hf
    obtain ⟨fu, rfl⟩ : ∃ m, fu = m + 1 := ⟨fu - 1, by omega⟩
    have hk : k = 8 := by omega
    subst hk
    show fl_X9_append_2 (fb_X9_append_2 fu) t e (nI 8) = _
    unfold fl_X9_append_2
    rw [if_pos (by decide)]
    rfl
  | succ d ih =>
    intro fu k hk hf
    obtain ⟨fu, rfl⟩ : ∃ m, fu = m + 1 := ⟨fu - 1, by omega⟩
    have ih := ih fu (k + 1) (by omega) (by omega)
    show fl_X9_append_2 (fb_X9_append_2 fu) t e (nI k) = _
    unfold fl_X9_append_2 fstk
    rw [if_neg (show ¬ (8 : Int32) ≤ nI k from nI_ge (b := 8) (by omega) (by decide)), x_byte e (by omega), bnd1_s]
    by_cases hb : bt e k = 0
    · rw [if_pos (by rw [hb]; rfl), if_pos (decide_eq_true hb)]
    · rw [if_neg (show ¬ nI (bt e k) = 0 from nI_ne0 (by omega) (Nat.lt_trans (bt_lt e k) (by decide))), if_neg (by rw [decide_eq_true_eq]; exact hb), bnd_e, nI_1]
      exact ih
theorem m_cnt (v : V12) (e : Int64) : ∀ (d fu k : Nat), k + d = 8 → d < fu → fb_X12_tell_7 fu v e (nI k) = fc_X12_tell_37 v e (nI (fstk (fun k => decide (bt e k = 0)) 8 k d)) := by
  intro d
  induction d with
  | zero =>
    intro fu k hk hf
    obtain ⟨fu, rfl⟩ : ∃ m, fu = m + 1 := ⟨fu - 1, by omega⟩
    have hk : k = 8 := by omega
    subst hk
    show fl_X12_tell_7 (fb_X12_tell_7 fu) v e (nI 8) = _
    unfold fl_X12_tell_7
    rw [if_pos (by decide)]
    rfl
  | succ d ih =>
    intro fu k hk hf
    obtain ⟨fu, rfl⟩ : ∃ m, fu = m + 1 := ⟨fu - 1, by omega⟩
    have ih := ih fu (k + 1) (by omega) (by omega)
    show fl_X12_tell_7 (fb_X12_tell_7 fu) v e (nI k) = _
    unfold fl_X12_tell_7 fstk
    rw [if_neg (show ¬ (8 : Int32) ≤ nI k from nI_ge (b := 8) (by omega) (by decide))]
    by_cases hb : bt e k = 0
    · rw [if_pos ((m_byte e (by omega)).mpr hb), if_pos (decide_eq_true hb)]
    · rw [if_neg (fun q => hb ((m_byte e (by omega)).mp q)), if_neg (by rw [decide_eq_true_eq]; exact hb), bnd_e, nI_1]
      exact ih
theorem tell_loop (e : Int64) {n0 m : Nat} (hn : n0 + m ≤ 300) (hm : m ≤ 8) (hpos : ∀ j, j < m → 0 < bt e j) (r1 r2 : Int32) : ∀ (d f1 f2 i : Nat) (g : Nat → Int32) (v : V12), i + d = m → d < f1 → d < f2 → v.2.1 942 = nI (n0 + i) → (∀ k, k < n0 + i → ∃ b : Nat, 0 < b ∧ b < 256 ∧ g k = nI b ∧ v.2.2.1 k &&& 255 = nI b) → ∃ (g2 F2 tx2 : Nat → Int32), fb_X9_append_46 f1 (g, nI n0, r1, r2) e (nI m) (nI i) = some (nI (n0 + m), (g2, nI (n0 + m), r1, r2)) ∧ fb_X12_tell_58 f2 v e (nI m) (nI i) = some (nI (n0 + m), (v.1, F2, tx2, v.2.2.2)) ∧ F2 942 = nI (n0 + m) ∧ (∀ j, j ≠ 942 → F2 j = v.2.1 j) ∧ (∀ j, 300 ≤ j → tx2 j = v.2.2.1 j) ∧ ∀ k, k < n0 + m → ∃ b : Nat, 0 < b ∧ b < 256 ∧ g2 k = nI b ∧ tx2 k &&& 255 = nI b := by
  intro d
  induction d with
  | zero =>
    intro f1 f2 i g v hi hf1 hf2 h942 hk
    obtain ⟨f1, rfl⟩ : ∃ m, f1 = m + 1 := ⟨f1 - 1, by omega⟩
    obtain ⟨f2, rfl⟩ : ∃ m, f2 = m + 1 := ⟨f2 - 1, by omega⟩
    have hi : i = m := by omega
    subst hi
    refine ⟨g, v.2.1, v.2.2.1, ?_, ?_, h942, fun _ _ => rfl, fun _ _ => rfl, hk⟩
    · show fl_X9_append_46 (fb_X9_append_46 f1) (g, nI n0, r1, r2) e (nI i) (nI i) = _
      unfold fl_X9_append_46
      rw [if_pos (Int32.le_refl _), bnd_e, nI_add]
    · show fl_X12_tell_58 (fb_X12_tell_58 f2) v e (nI i) (nI i) = _
      unfold fl_X12_tell_58
      rw [if_pos (Int32.le_refl _), chk_in (by unfold vp_in; decide), show ((942 : Int32)).toNatClampNeg = 942 from rfl, h942]
  | succ d ih =>
    intro f1 f2 i g v hi hf1 hf2 h942 hk
    obtain ⟨f1, rfl⟩ : ∃ m, f1 = m + 1 := ⟨f1 - 1, by omega⟩
    obtain ⟨f2, rfl⟩ : ∃ m, f2 = m + 1 := ⟨f2 - 1, by omega⟩
    obtain ⟨g2, F2, tx2, a1, a2, a3, a4, a5, a6⟩ := ih f1 f2 (i + 1) (upd g (n0 + i) (nI (bt e i))) (v.1, upd v.2.1 942 (nI (n0 + i + 1)), upd v.2.2.1 (n0 + i) (vp_nar .byte (ji2b (Int64.toInt32 (jlshr e ((56 : Int32) - (8 : Int32) * nI i))))), v.2.2.2) (by omega) (by omega) (by omega) (upd_s v.2.1 942 (nI (n0 + i + 1))) (fun k hk2 => by
      show ∃ b : Nat, 0 < b ∧ b < 256 ∧ upd g (n0 + i) (nI (bt e i)) k = nI b ∧ upd v.2.2.1 (n0 + i) _ k &&& 255 = nI b
      by_cases hk3 : k = n0 + i
      · subst hk3
        exact ⟨bt e i, hpos i (by omega), bt_lt e i, upd_s _ _ _, by rw [upd_s]; exact m_store e (by omega)⟩
      · rw [upd_n hk3, upd_n hk3]
        exact hk k (by omega))
    refine ⟨g2, F2, tx2, ?_, ?_, a3, fun j hj => ?_, fun j hj => ?_, a6⟩
    · show fl_X9_append_46 (fb_X9_append_46 f1) (g, nI n0, r1, r2) e (nI m) (nI i) = _
      unfold fl_X9_append_46
      dsimp only
      rw [if_neg (nI_ge (by omega) (by omega)), x_byte e (by omega), bnd1_s, nI_add, chk_nI (by omega) (by decide), nI_clamp (by omega), bnd_e, bnd_e, nI_1]
      exact a1
    · show fl_X12_tell_58 (fb_X12_tell_58 f2) v e (nI m) (nI i) = _
      unfold fl_X12_tell_58
      rw [if_neg (nI_ge (by omega) (by omega)), show ((942 : Int32)).toNatClampNeg = 942 from rfl, h942, chk_in (by unfold vp_in; decide), chk_nI (by omega) (by decide), nI_clamp (by omega), bnd_e, chk_in (by unfold vp_in; decide), chk_in (by unfold vp_in; decide), bnd_e, bnd_e, nI_1, nI_1]
      exact a2
    · rw [a4 j hj]
      show upd v.2.1 942 _ j = _
      rw [upd_n hj]
    · rw [a5 j hj]
      show upd v.2.2.1 (n0 + i) _ j = _
      rw [upd_n (by omega)]
theorem tell_rel {t : V9} {v : V12} (e : Int64) (hR : RT t v.2.1 v.2.2.1) : ∃ (r : Int32) (t2 : V9) (F2 tx2 : Nat → Int32), f_X9_append t e = some (r, t2) ∧ f_X12_tell v e = some (r, (0, F2, tx2, v.2.2.2)) ∧ RT t2 F2 tx2 ∧ (∀ j, j ≠ 942 → F2 j = v.2.1 j) ∧ ∀ j, 300 ≤ j → tx2 j = v.2.2.1 j := by
  obtain ⟨n, h1, h2, h3, h4, h5, h6⟩ := hR
  obtain ⟨g, tn, r1, r2⟩ := t
  dsimp only at h2 h4 h5 h6
  subst h2
  have hx := x_cnt (g, nI n, r1, r2) e 8 FU 0 (by omega) (by decide)
  have hm := m_cnt (0, v.2) e 8 FU 0 (by omega) (by decide)
  have hX : f_X9_append (g, nI n, r1, r2) e = fc_X9_append_22 (g, nI n, r1, r2) e (nI (nb e)) := hx
  have hM : f_X12_tell v e = fc_X12_tell_37 (0, v.2) e (nI (nb e)) := hm
  have hnb := nb_le e
  rw [hX, hM]
  unfold fc_X9_append_22 fc_X12_tell_37
  dsimp only
  rw [if_neg (nI_pos (by omega)), chk_in (by unfold vp_in; decide), show ((942 : Int32)).toNatClampNeg = 942 from rfl, h3, nI_add]
  by_cases hle : n + nb e ≤ 300
  · rw [if_pos (show nI (n + nb e) ≤ (300 : Int32) from nI_le (b := 300) hle (by decide)), if_pos (show nI (n + nb e) ≤ (300 : Int32) from nI_le (b := 300) hle (by decide))]
    obtain ⟨g2, F2, tx2, a1, a2, a3, a4, a5, a6⟩ := tell_loop e hle hnb (fun j hj => nb_pos e hj) r1 r2 (nb e) FU FU 0 g (0, v.2) (by omega) (by show nb e < 8589934592; omega) (by show nb e < 8589934592; omega) h3 h6
    exact ⟨_, _, F2, tx2, a1, a2, ⟨n + nb e, hle, rfl, a3, by rw [a4 943 (by decide)]; exact h4, by rw [a4 944 (by decide)]; exact h5, a6⟩, a4, a5⟩
  · rw [if_neg (show ¬ nI (n + nb e) ≤ (300 : Int32) from nI_ge (a := 300) (by omega) (by omega)), if_neg (show ¬ nI (n + nb e) ≤ (300 : Int32) from nI_ge (a := 300) (by omega) (by omega))]
    exact ⟨-1, _, v.2.1, v.2.2.1, rfl, rfl, ⟨n, h1, rfl, h3, h4, h5, h6⟩, fun _ _ => rfl, fun _ _ => rfl⟩
end TE
end mp_46_te
section mp_47_cp
section CP
theorem R.frame {B : Nat} {w : V10} {F F2 : Nat → Int32} (hR : R B w F) (e : ∀ j, j < 942 → F2 j = F j) : R B w F2 := by
  obtain ⟨c, lg, W, BL, o, hSV, hS, hLm, hO, hC, hP, hQ, hRr, w25, w26, w27, w28, w29, w30, wst⟩ := hR
  refine ⟨c, lg, W, BL, o, hSV, hS.frame (fun j hj => e j (by omega)), hLm, hO.frame (fun j a1 a2 => e j (by omega)), hC.frame (fun j a1 a2 => e j (by omega)), hP.frame (fun j a1 a2 => e j (by omega)), hQ.frame (fun j hj => e j (by omega)), hRr.frame (fun j a1 a2 => e j (by omega)), ?_, ?_, ?_, ?_, ?_, fun h => ⟨?_, ?_⟩, wst⟩
  · rw [e 25 (by omega)]; exact w25
  · rw [e 26 (by omega)]; exact w26
  · rw [e 27 (by omega)]; exact w27
  · rw [e 28 (by omega)]; exact w28
  · rw [e 29 (by omega)]; exact w29
  · rw [e 30 (by omega)]; exact (w30 h).1
  · rw [e 701 (by omega)]; exact (w30 h).2
theorem R.mono {B B2 : Nat} {w : V10} {F : Nat → Int32} (hR : R B w F) (h : B ≤ B2) : R B2 w F := by
  obtain ⟨c, lg, W, BL, o, hSV, hS, hLm, hO, hC, hq⟩ := hR
  exact ⟨c, lg, W, BL, o, hSV, hS, hLm, hO, hC.mono h, hq⟩
/-- a block to another -/
theorem copies_loop {a b : Nat} (ha : a ≤ 4) (hb : b ≤ 4) (hab : a ≠ b) : ∀ (d fu k : Nat) (v : V12), k + d = 945 → d < fu → ∃ F2 : Nat → Int32, fb_X12_copies_2 fu v (nI a) (nI b) (nI k) = some (v.1, F2, v.2.2) ∧ (∀ j, k ≤ j → j < 945 → F2 (945 * b + j) = v.2.1 (945 * a + j)) ∧ (∀ j, j < 945 * b + k ∨ 945 * b + 945 ≤ j → F2 j = v.2.1 j) := by
  intro d
  induction d with
  | zero =>
    intro fu k v hk hf
    obtain ⟨fu, rfl⟩ : ∃ m, fu = m + 1 := ⟨fu - 1, by omega⟩
    have hk : k = 945 := by omega
    subst hk
    refine ⟨v.2.1, ?_, fun j q1 q2 => absurd q2 (by omega), fun _ _ => rfl⟩
    unfold fb_X12_copies_2 fl_X12_copies_2
    rw [if_pos (show (945 : Int32) ≤ nI 945 by decide)]
  | succ d ih =>
    intro fu k v hk hf
    obtain ⟨fu, rfl⟩ : ∃ m, fu = m + 1 := ⟨fu - 1, by omega⟩
    obtain ⟨F2, i1, i2, i3⟩ := ih fu (k + 1) (v.1, upd v.2.1 (945 * b + k) (v.2.1 (945 * a + k)), v.2.2) (by omega) (by omega)
    refine ⟨F2, ?_, fun j q1 q2 => ?_, fun j hj => ?_⟩
    · unfold fb_X12_copies_2 fl_X12_copies_2
      rw [if_neg (show ¬ (945 : Int32) ≤ nI k from nI_ge (b := 945) (by omega) (by decide)), show (945 : Int32) * nI a + nI k = nI (945 * a + k) from by show nI 945 * nI a + nI k = _; rw [pk_mul, nI_add], show (945 : Int32) * nI b + nI k = nI (945 * b + k) from by show nI 945 * nI b + nI k = _; rw [pk_mul, nI_add]]
      rw [chk_nI (by omega) (by decide), chk_nI (by omega) (by decide), nI_clamp (by omega), nI_clamp (by omega), bnd_e, bnd_e, nI_1]
      exact i1
    · by_cases hj : j = k
      · subst hj
        rw [i3 _ (Or.inl (by omega))]
        exact upd_s _ _ _
      · rw [i2 j (by omega) q2]
        exact upd_n (by omega)
    · rw [i3 j (by omega)]
      exact upd_n (by omega)
theorem m_copies {a b : Nat} (ha : a ≤ 4) (hb : b ≤ 4) (hab : a ≠ b) (v : V12) : ∃ F2 : Nat → Int32, f_X12_copies v (nI a) (nI b) = some (v.1, F2, v.2.2) ∧ (∀ j, j < 945 → F2 (945 * b + j) = v.2.1 (945 * a + j)) ∧ (∀ j, j < 945 * b ∨ 945 * b + 945 ≤ j → F2 j = v.2.1 j) := by
  obtain ⟨F2, i1, i2, i3⟩ := copies_loop ha hb hab 945 FU 0 v (by omega) (by show 945 < 8589934592; omega)
  exact ⟨F2, i1, fun j hj => i2 j (by omega) hj, fun j hj => i3 j (by omega)⟩
theorem nar_b (x : Int32) : vp_nar .byte x = x.toInt8.toInt32 := rfl
theorem nar_low (x : Int32) : vp_nar .byte x &&& 255 = x &&& 255 := by
  rw [nar_b, i8_low, pk_and x 8 (by decide)]
theorem text_loop {a b : Nat} (ha : a ≤ 4) (hb : b ≤ 4) (hab : a ≠ b) : ∀ (d fu k : Nat) (v : V12), k + d = 300 → d < fu → ∃ t2 : Nat → Int32, fb_X12_copiesText_8 fu v (nI a) (nI b) (nI k) = some (v.1, v.2.1, t2, v.2.2.2) ∧ (∀ j, k ≤ j → j < 300 → t2 (300 * b + j) &&& 255 = v.2.2.1 (300 * a + j) &&& 255) ∧ (∀ j, j < 300 * b + k ∨ 300 * b + 300 ≤ j → t2 j = v.2.2.1 j) := by
  intro d
  induction d with
  | zero =>
    intro fu k v hk hf
    obtain ⟨fu, rfl⟩ : ∃ m, fu = m + 1 := ⟨fu - 1, by omega⟩
    have hk : k = 300 := by omega
    subst hk
    refine ⟨v.2.2.1, ?_, fun j q1 q2 => absurd q2 (by omega), fun _ _ => rfl⟩
    unfold fb_X12_copiesText_8 fl_X12_copiesText_8
    rw [if_pos (show (300 : Int32) ≤ nI 300 by decide)]
  | succ d ih =>
    intro fu k v hk hf
    obtain ⟨fu, rfl⟩ : ∃ m, fu = m + 1 := ⟨fu - 1, by omega⟩
    obtain ⟨t2, i1, i2, i3⟩ := ih fu (k + 1) (v.1, v.2.1, upd v.2.2.1 (300 * b + k) (vp_nar .byte (v.2.2.1 (300 * a + k))), v.2.2.2) (by omega) (by omega)
    refine ⟨t2, ?_, fun j q1 q2 => ?_, fun j hj => ?_⟩
    · unfold fb_X12_copiesText_8 fl_X12_copiesText_8
      rw [if_neg (show ¬ (300 : Int32) ≤ nI k from nI_ge (b := 300) (by omega) (by decide)), show (300 : Int32) * nI a + nI k = nI (300 * a + k) from by show nI 300 * nI a + nI k = _; rw [pk_mul, nI_add], show (300 : Int32) * nI b + nI k = nI (300 * b + k) from by show nI 300 * nI b + nI k = _; rw [pk_mul, nI_add]]
      rw [chk_nI (by omega) (by decide), chk_nI (by omega) (by decide), nI_clamp (by omega), nI_clamp (by omega), bnd_e, bnd_e, nI_1]
      exact i1
    · by_cases hj : j = k
      · subst hj
        rw [i3 _ (Or.inl (by omega))]
        show upd v.2.2.1 _ _ _ &&& 255 = _
        rw [upd_s, nar_low]
      · rw [i2 j (by omega) q2]
        show upd v.2.2.1 _ _ _ &&& 255 = _
        rw [upd_n (by omega)]
    · rw [i3 j (by omega)]
      exact upd_n (by omega)
theorem m_text {a b : Nat} (ha : a ≤ 4) (hb : b ≤ 4) (hab : a ≠ b) (v : V12) : ∃ F2 t2 : Nat → Int32, f_X12_copiesText v (nI a) (nI b) = some (v.1, F2, t2, v.2.2.2) ∧ (∀ j, j < 945 → F2 (945 * b + j) = v.2.1 (945 * a + j)) ∧ (∀ j, j < 945 * b ∨ 945 * b + 945 ≤ j → F2 j = v.2.1 j) ∧ (∀ j, j < 300 → t2 (300 * b + j) &&& 255 = v.2.2.1 (300 * a + j) &&& 255) ∧ (∀ j, j < 300 * b ∨ 300 * b + 300 ≤ j → t2 j = v.2.2.1 j) := by
  obtain ⟨F2, i1, i2, i3⟩ := m_copies ha hb hab v
  obtain ⟨t2, k1, k2, k3⟩ := text_loop ha hb hab 300 FU 0 (v.1, F2, v.2.2) (by omega) (by show 300 < 8589934592; omega)
  refine ⟨F2, t2, ?_, i2, i3, fun j hj => k2 j (by omega) hj, fun j hj => k3 j (by omega)⟩
  unfold f_X12_copiesText
  rw [i1, bnd1_s]
  exact k1
theorem cpk {n i : Nat} (f g : Nat → Int32) (h : i < n) : va_cpy f g 0 0 n i = f i := (pk_cpy_in (Nat.zero_le i) (by omega)).trans (congrArg f (by omega))
theorem cp7 (s0 s : V7) : ∃ s2 : V7, f_X7_copyFrom s0 s = some s2 ∧ (∀ k, k < 9 → s2.1 k = s.1 k) ∧ (∀ k, k < 4 → s2.2.1 k = s.2.1 k ∧ s2.2.2.1 k = s.2.2.1 k ∧ s2.2.2.2.1 k = s.2.2.2.1 k) ∧ s2.2.2.2.2 = s.2.2.2.2 := by
  refine ⟨(va_cpy s.1 s0.1 0 0 9, va_cpy s.2.1 s0.2.1 0 0 4, va_cpy s.2.2.1 s0.2.2.1 0 0 4, va_cpy s.2.2.2.1 s0.2.2.2.1 0 0 4, s.2.2.2.2), ?_, fun k h => cpk _ _ h, fun k h => ⟨cpk _ _ h, cpk _ _ h, cpk _ _ h⟩, rfl⟩
  unfold f_X7_copyFrom chkcp
  rw [bnd_e, if_neg (by decide), bnd_e, if_neg (by decide), bnd_e, if_neg (by decide), bnd_e, if_neg (by decide), bnd_e]
  rfl
theorem cp4 (q0 q : V4) : ∃ q2 : V4, f_X4_copyFrom q0 q = some q2 ∧ (∀ k, k < 512 → q2.1 k = q.1 k) ∧ q2.2.1 = q.2.1 ∧ q2.2.2 = q.2.2 := by
  refine ⟨(va_cpy q.1 q0.1 0 0 512, q.2.1, q.2.2), ?_, fun k h => cpk _ _ h, rfl, rfl⟩
  unfold f_X4_copyFrom chkcp
  rw [if_neg (by decide), bnd_e]
  rfl
theorem cp6 (q0 q : V6) : ∃ q2 : V6, f_X6_copyFrom q0 q = some q2 ∧ (∀ k, k < 15 → q2.1 k = q.1 k ∧ q2.2.1 k = q.2.1 k) ∧ q2.2.2 = q.2.2 := by
  refine ⟨(va_cpy q.1 q0.1 0 0 15, va_cpy q.2.1 q0.2.1 0 0 15, q.2.2), ?_, fun k h => ⟨cpk _ _ h, cpk _ _ h⟩, rfl⟩
  unfold f_X6_copyFrom chkcp
  rw [if_neg (by decide), bnd_e, if_neg (by decide), bnd_e]
  rfl
theorem cp9 (q0 q : V9) : ∃ q2 : V9, f_X9_copyFrom q0 q = some q2 ∧ (∀ k, k < 300 → q2.1 k = q.1 k) ∧ q2.2 = q.2 := by
  refine ⟨(va_cpy q.1 q0.1 0 0 300, q.2.1, q.2.2.1, q.2.2.2), ?_, fun k h => cpk _ _ h, rfl⟩
  unfold f_X9_copyFrom chkcp
  rw [if_neg (by decide), bnd_e]
  rfl
theorem RQ.copy {a o mx : Nat} {q q2 : V4} {F : Nat → Int32} (h : RQ a o mx q F) (e1 : ∀ k, k < 512 → q2.1 k = q.1 k) (e2 : q2.2.1 = q.2.1) (e3 : q2.2.2 = q.2.2) : RQ a o mx q2 F := by
  obtain ⟨n, i, h1, h2, h3, h4, h5, h6⟩ := h
  refine ⟨n, i, h1, h2, by rw [e3]; exact h3, by rw [e2]; exact h4, h5, fun k hk => ?_⟩
  rw [e1 _ (Nat.mod_lt _ (by decide))]
  exact h6 k hk
/-- a copy of a watch stands where the watch stood -/
theorem copy_rel {B : Nat} {w : V10} {F : Nat → Int32} (w0 : V10) (hR : R B w F) : ∃ w2 : V10, f_X10_copyFrom w0 w = some w2 ∧ R B w2 F ∧ (∀ k, k < 300 → w2.2.2.2.2.2.2.2.1.1 k = w.2.2.2.2.2.2.2.1.1 k) ∧ w2.2.2.2.2.2.2.2.1.2 = w.2.2.2.2.2.2.2.1.2 := by
  obtain ⟨s, lm, src, cn, ⟨pq, pr⟩, q, rs, tx, st, fa, al, sts, li, si⟩ := w
  obtain ⟨s0, lm0, src0, cn0, ⟨pq0, pr0⟩, q0, rs0, tx0, zz0⟩ := w0
  obtain ⟨s2, a1, a2, a3, a4⟩ := cp7 s0 s
  obtain ⟨p2, b1, b2, b3, b4⟩ := cp4 pq0 pq
  obtain ⟨q2, c1, c2, c3, c4⟩ := cp4 q0 q
  obtain ⟨r2, d1, d2, d3⟩ := cp6 rs0 rs
  obtain ⟨t2, e1, e2, e3⟩ := cp9 tx0 tx
  obtain ⟨c, lg, W, BL, o, hSV, hS, hLm, hO, hC, hP, hQ, hRr, hW⟩ := hR
  dsimp only at hSV hS hLm hO hC hP hQ hRr
  refine ⟨(s2, (lm0.1, lm0.2.1, lm.2.2.1, lm.2.2.2.1, lm.2.2.2.2), src, cn, (p2, pr), q2, r2, t2, st, fa, al, sts, li, si), ?_, ⟨c, lg, W, BL, o, ?_, ?_, hLm, hO, hC, ?_, hQ.copy c2 c3 c4, ?_, hW⟩, e2, e3⟩
  · unfold f_X10_copyFrom f_X8_copyFrom f_X1_copyFrom f_X3_copyFrom
    dsimp only
    rw [a1, bnd1_s, bnd1_s, bnd1_s, b1, bnd1_s, bnd1_s, c1, bnd1_s, d1, bnd1_s, e1, bnd1_s]
  · obtain ⟨g1, g2, g3, g4, g5, g6, g7, g8, g9, g10, g11, g12, g13⟩ := hSV
    refine ⟨?_, g2, g3, ?_, g5, g6, ?_, g8, g9, ?_, g11, g12, ?_⟩
    · rw [a2 0 (by omega)]; exact g1
    · rw [a2 1 (by omega)]; exact g4
    · rw [a2 2 (by omega)]; exact g7
    · rw [a2 4 (by omega)]; exact g10
    · rw [a2 5 (by omega)]; exact g13
  · obtain ⟨g1, n, g2, g3, g4, g5⟩ := hS
    refine ⟨fun k hk => by rw [a2 k hk]; exact g1 k hk, n, g2, by rw [a4]; exact g3, g4, fun k hk => ?_⟩
    obtain ⟨z1, z2, z3⟩ := a3 k (by omega)
    rw [z1, z2, z3]
    exact g5 k hk
  · exact ⟨hP.1.copy b2 b3 b4, hP.2⟩
  · obtain ⟨n, g1, g2, g3, g4⟩ := hRr
    refine ⟨n, g1, by rw [d3]; exact g2, g3, fun i hi => ?_⟩
    obtain ⟨z1, z2⟩ := d2 i (by omega)
    rw [z1, z2]
    exact g4 i hi
theorem RT.copy {t t2 : V9} {F tx F2 tx2 : Nat → Int32} (h : RT t F tx) (e1 : ∀ k, k < 300 → t2.1 k = t.1 k) (e2 : t2.2 = t.2) (e : ∀ j, 942 ≤ j → j < 945 → F2 j = F j) (ex : ∀ j, j < 300 → tx2 j &&& 255 = tx j &&& 255) : RT t2 F2 tx2 := by
  obtain ⟨n, h1, h2, h3, h4, h5, h6⟩ := h
  refine ⟨n, h1, by rw [e2]; exact h2, by rw [e 942 (by omega) (by omega)]; exact h3, by rw [e 943 (by omega) (by omega), e2]; exact h4, by rw [e 944 (by omega) (by omega), e2]; exact h5, fun k hk => ?_⟩
  obtain ⟨b, g1, g2, g3, g4⟩ := h6 k hk
  exact ⟨b, g1, g2, by rw [e1 k (by omega)]; exact g3, by rw [ex k (by omega)]; exact g4⟩
end CP
end mp_47_cp
section mp_48_lx
section LX
/-- the TEXT's bytes -/
def HB (t : V9) (n : Nat) (g : Nat → Nat) (tx : Nat → Int32) : Prop := n ≤ 300 ∧ t.2.1 = nI n ∧ ∀ k, k < n → 0 < g k ∧ g k < 256 ∧ t.1 k = nI (g k) ∧ tx k &&& 255 = nI (g k)
def lt_ (c : Nat) : Bool := decide (97 ≤ c) && decide (c ≤ 122)
def dg_ (c : Nat) : Bool := decide (48 ≤ c) && decide (c ≤ 57)
def bl_ (c : Nat) : Bool := decide (c = 32) || decide (c = 10)
theorem m_in2 {a b c : Nat} (ha : a < 2 ^ 31) (hb : b < 2 ^ 31) (hc : c < 2 ^ 31) : f_X12_in (nI c) (nI a) (nI b) = some (if (decide (a ≤ c) && decide (c ≤ b)) = true then 1 else 0) := by
  unfold f_X12_in
  by_cases h1 : c < a
  · rw [if_pos (nI_lt h1 ha), if_neg (by rw [Bool.and_eq_true, decide_eq_true_eq, decide_eq_true_eq]; omega)]
  · rw [if_neg (nI_nlt (by omega) hc)]
    by_cases h2 : b < c
    · rw [if_pos (nI_lt h2 hc), if_neg (by rw [Bool.and_eq_true, decide_eq_true_eq, decide_eq_true_eq]; omega)]
    · rw [if_neg (nI_nlt (by omega) hb), if_pos (by rw [Bool.and_eq_true, decide_eq_true_eq, decide_eq_true_eq]; omega)]
theorem x_letter {c : Nat} (hc : c < 2 ^ 31) : f_X5_isLetter (nI c) = some (if lt_ c = true then 1 else 0) := m_in2 (a := 97) (b := 122) (by decide) (by decide) hc
theorem x_digit {c : Nat} (hc : c < 2 ^ 31) : f_X5_isDigit (nI c) = some (if dg_ c = true then 1 else 0) := m_in2 (a := 48) (b := 57) (by decide) (by decide) hc
theorem x_blank {c : Nat} (hc : c < 2 ^ 31) : f_X5_isBlank (nI c) = some (if bl_ c = true then 1 else 0) := by
  unfold f_X5_isBlank bl_
  by_cases h1 : c = 32
  · rw [if_pos (by rw [h1]; rfl), if_pos (by rw [h1]; rfl)]
  · rw [if_neg (show ¬ nI c = (32 : Int32) from fun h => h1 ((nI_eq (b := 32) hc (by decide)).mp h))]
    by_cases h2 : c = 10
    · rw [if_pos (by rw [h2]; rfl), if_pos (by rw [h2]; rfl)]
    · rw [if_neg (show ¬ nI c = (10 : Int32) from fun h => h2 ((nI_eq (b := 10) hc (by decide)).mp h)), if_neg (by rw [Bool.or_eq_true, decide_eq_true_eq, decide_eq_true_eq]; omega)]
theorem x_at {t : V9} {n : Nat} {g : Nat → Nat} {tx : Nat → Int32} (hB : HB t n g tx) {p : Nat} (hp : p < n) : f_X9_byteAt t (nI p) = some (nI (g p)) := by
  obtain ⟨h1, h2, h3⟩ := hB
  unfold f_X9_byteAt
  rw [if_neg (nI_pos (by omega)), if_neg (by rw [h2]; exact nI_ge hp (by omega)), if_pos (show nI p < (300 : Int32) from nI_lt (b := 300) (by omega) (by decide)), chk_nI (by omega) (by decide), nI_clamp (by omega), (h3 p hp).2.2.1]
theorem x_atE {t : V9} {n : Nat} {g : Nat → Nat} {tx : Nat → Int32} (hB : HB t n g tx) : f_X9_byteAt t (nI n) = some (-1) := by
  obtain ⟨h1, h2, h3⟩ := hB
  unfold f_X9_byteAt
  rw [if_neg (nI_pos (by omega)), if_pos (by rw [h2]; exact nI_le (Nat.le_refl _) (by omega))]
theorem m_see {t : V9} {n : Nat} {g : Nat → Nat} {tx : Nat → Int32} (hB : HB t n g tx) {p : Nat} (hp : p < n) (v : V12) (e1 : v.2.2.1 = tx) (e2 : v.2.2.2.2.1 = nI p) (e3 : v.2.2.2.2.2.1 = nI n) : f_X12_see v = some (nI (g p)) := by
  obtain ⟨h1, h2, h3⟩ := hB
  unfold f_X12_see
  rw [e1, e2, e3, if_neg (nI_ge hp (by omega)), chk_nI (by omega) (by decide), nI_clamp (by omega), (h3 p hp).2.2.2]
theorem m_seeE {n : Nat} (hn : n ≤ 300) (v : V12) (e2 : v.2.2.2.2.1 = nI n) (e3 : v.2.2.2.2.2.1 = nI n) : f_X12_see v = some (-1) := by
  unfold f_X12_see
  rw [e2, e3, if_pos (nI_le (Nat.le_refl _) (by omega))]
theorem x_word {t : V9} {n : Nat} {g : Nat → Nat} {tx : Nat → Int32} (hB : HB t n g tx) (s : V7) (nm : Nat → Int32) (kd bg nu fa fq : Int32) : ∀ (d fu p : Nat), p + d = n → d < fu → fb_X5_passWord_0 t fu (s, nm, nI p, kd, bg, nu, fa, fq) = some (s, nm, nI (fstk (fun k => !lt_ (g k)) n p d), 1, bg, nu, fa, fq) := by
  intro d
  have hn : n ≤ 300 := hB.1
  induction d with
  | zero =>
    intro fu p hk hf
    obtain ⟨fu, rfl⟩ : ∃ m, fu = m + 1 := ⟨fu - 1, by omega⟩
    have hk : p = n := by omega
    subst hk
    unfold fb_X5_passWord_0 fl_X5_passWord_0
    rw [if_pos (by rw [hB.2.1]; exact nI_le (Nat.le_refl _) (by omega))]
    rfl
  | succ d ih =>
    intro fu p hk hf
    obtain ⟨fu, rfl⟩ : ∃ m, fu = m + 1 := ⟨fu - 1, by omega⟩
    unfold fb_X5_passWord_0 fl_X5_passWord_0 fstk
    dsimp only
    rw [if_neg (by rw [hB.2.1]; exact nI_ge (by omega) (by omega)), x_at hB (by omega), bnd1_s, x_letter (Nat.lt_trans (hB.2.2 p (by omega)).2.1 (by decide)), bnd1_s]
    by_cases hl : lt_ (g p) = true
    · rw [if_neg (by rw [if_pos hl]; decide), if_neg (by rw [hl]; decide), bnd_e, nI_1]
      exact ih fu (p + 1) (by omega) (by omega)
    · rw [if_pos (by rw [if_neg hl]), if_pos (by rw [Bool.not_eq_true] at hl; rw [hl]; rfl)]
/-- the letters' number -/
def wd (g : Nat → Nat) (b : Nat) : Nat → Int64
  | 0 => 0
  | k + 1 => jlshl (wd g b k) 8 ||| Int32.toInt64 (nI (g (b + k)))
theorem m_word {t : V9} {n : Nat} {g : Nat → Nat} {tx : Nat → Int32} (hB : HB t n g tx) {b : Nat} {ra : Int32} {al sv : Nat → Int32} {bg so va : Int32} {z : Int32 × Int32 × Int32 × (Nat → Int32) × Int32 × Int32 × Int32 × Int32 × Int32 × Int64 × Int64 × (Nat → Int32)} : ∀ (d fu p k : Nat), b + k = p → p + d = n → d < fu → fb_X12_token_74 fu (ra, al, tx, sv, nI p, nI n, bg, so, va, wd g b k, z) (nI k) = some (ra, al, tx, sv, nI (fstk (fun k => !lt_ (g k)) n p d), nI n, bg, 2, va, (if fstk (fun k => !lt_ (g k)) n p d - b ≤ 8 then wd g b (fstk (fun k => !lt_ (g k)) n p d - b) else 0), z) := by
  intro d
  have hn : n ≤ 300 := hB.1
  have fin : ∀ (p k : Nat), b + k = p → p ≤ n → (if nI k ≤ (8 : Int32) then some (ra, al, tx, sv, nI p, nI n, bg, (2 : Int32), va, wd g b k, z) else some (ra, al, tx, sv, nI p, nI n, bg, 2, va, (0 : Int64), z)) = some (ra, al, tx, sv, nI p, nI n, bg, 2, va, (if p - b ≤ 8 then wd g b (p - b) else 0), z) := by
    intro p k hk hp
    rw [show p - b = k by omega]
    by_cases h8 : k ≤ 8
    · rw [if_pos (show nI k ≤ (8 : Int32) from nI_le (b := 8) h8 (by decide)), if_pos h8]
    · rw [if_neg (show ¬ nI k ≤ (8 : Int32) from nI_ge (a := 8) (by omega) (by omega)), if_neg h8]
  induction d with
  | zero =>
    intro fu p k hb hk hf
    obtain ⟨fu, rfl⟩ : ∃ m, fu = m + 1 := ⟨fu - 1, by omega⟩
    have hk : p = n := by omega
    subst hk
    show fl_X12_token_74 (fb_X12_token_74 fu) _ _ = _
    unfold fl_X12_token_74
    rw [m_seeE hn _ rfl rfl, bnd1_s, show f_X12_in (-1) 97 122 = some 0 from rfl, bnd1_s, if_pos rfl]
    exact fin p k hb (Nat.le_refl _)
  | succ d ih =>
    intro fu p k hb hk hf
    obtain ⟨fu, rfl⟩ : ∃ m, fu = m + 1 := ⟨fu - 1, by omega⟩
    have hc : g p < 2 ^ 31 := Nat.lt_trans (hB.2.2 p (by omega)).2.1 (by decide)
    have hi := ih fu (p + 1) (k + 1) (by omega) (by omega) (by omega)
    show fl_X12_token_74 (fb_X12_token_74 fu) _ _ = _
    unfold fl_X12_token_74
    rw [m_see hB (p := p) (by omega) _ rfl rfl rfl, bnd1_s, show f_X12_in (nI (g p)) 97 122 = some (if lt_ (g p) = true then 1 else 0) from x_letter hc, bnd1_s]
    by_cases hl : lt_ (g p) = true
    · have e : fstk (fun k => !lt_ (g k)) n p (d + 1) = fstk (fun k => !lt_ (g k)) n (p + 1) d := by
        show (if (!lt_ (g p)) = true then p else _) = _
        rw [if_neg (by rw [hl]; decide)]
      rw [if_neg (by rw [if_pos hl]; decide), bnd1_s, bnd_e, bnd_e, bnd_e, e]
      dsimp only
      rw [nI_1, nI_1]
      refine Eq.trans ?_ hi
      show fb_X12_token_74 fu (ra, al, tx, sv, nI (p + 1), nI n, bg, so, va, jlshl (wd g b k) 8 ||| Int32.toInt64 (nI (g p)), z) (nI (k + 1)) = fb_X12_token_74 fu (ra, al, tx, sv, nI (p + 1), nI n, bg, so, va, jlshl (wd g b k) 8 ||| Int32.toInt64 (nI (g (b + k))), z) (nI (k + 1))
      rw [hb]
    · have e : fstk (fun k => !lt_ (g k)) n p (d + 1) = p := by
        show (if (!lt_ (g p)) = true then p else _) = _
        rw [if_pos (by rw [Bool.not_eq_true] at hl; rw [hl]; rfl)]
      rw [if_pos (by rw [if_neg hl]), e]
      exact fin p k hb (by omega)
/-- the digits' number, four of them -/
def vl (g : Nat → Nat) (b : Nat) : Nat → Nat
  | 0 => 0
  | k + 1 => if 4 ≤ k then vl g b k else vl g b k * 10 + (g (b + k) - 48)
theorem vl_lt (g : Nat → Nat) (b : Nat) : ∀ k, (∀ i, i < k → dg_ (g (b + i)) = true) → vl g b k < 10 ^ (min k 4)
  | 0, _ => by show 0 < 10 ^ 0; decide
  | k + 1, h => by
    have ih := vl_lt g b k (fun i hi => h i (by omega))
    have hd := h k (by omega)
    unfold dg_ at hd
    rw [Bool.and_eq_true, decide_eq_true_eq, decide_eq_true_eq] at hd
    show (if 4 ≤ k then vl g b k else vl g b k * 10 + (g (b + k) - 48)) < _
    by_cases h4 : 4 ≤ k
    · rw [if_pos h4, show min (k + 1) 4 = min k 4 by omega]; exact ih
    · rw [if_neg h4, show min (k + 1) 4 = k + 1 by omega, Nat.pow_succ]
      rw [show min k 4 = k by omega] at ih
      omega
theorem sub_nI2 {p b : Nat} (h : b ≤ p) : nI p - nI b = nI (p - b) := by
  have e : nI p = nI (p - b) + nI b := by rw [nI_add]; congr 1; omega
  rw [e, Int32.add_sub_cancel]
theorem dig_nI {m c : Nat} (hc : 48 ≤ c) : nI m * 10 + nI c - 48 = nI (m * 10 + (c - 48)) := by
  show nI m * nI 10 + nI c - nI 48 = _
  rw [pk_mul, nI_add, sub_nI2 (by omega)]
  congr 1; omega
theorem x_num {t : V9} {n : Nat} {g : Nat → Nat} {tx : Nat → Int32} (hB : HB t n g tx) {b : Nat} (s : V7) (nm : Nat → Int32) (kd fa fq : Int32) : ∀ (d fu p k : Nat), b + k = p → p + d = n → d < fu → ∃ q : Nat, q = fstk (fun k => !dg_ (g k)) n p d ∧ fb_X5_passNumber_5 t fu (s, nm, nI p, kd, nI b, nI (vl g b k), fa, fq) = some (s, nm, nI q, (if q - b ≤ 4 then 2 else 4), nI b, nI (vl g b (q - b)), fa, fq) := by
  intro d
  have hn : n ≤ 300 := hB.1
  have fin : ∀ (p k : Nat), b + k = p → p ≤ n → fc_X5_passNumber_79 t (s, nm, nI p, kd, nI b, nI (vl g b k), fa, fq) = some (s, nm, nI p, (if p - b ≤ 4 then 2 else 4), nI b, nI (vl g b (p - b)), fa, fq) := by
    intro p k hk hp
    unfold fc_X5_passNumber_79
    dsimp only
    rw [sub_nI2 (by omega), show p - b = k by omega]
    by_cases h8 : k ≤ 4
    · rw [if_neg (show ¬ (4 : Int32) < nI k from nI_nlt (a := 4) h8 (by decide)), if_pos h8]
    · rw [if_pos (show (4 : Int32) < nI k from nI_lt (a := 4) (by omega) (by omega)), if_neg h8]
  induction d with
  | zero =>
    intro fu p k hb hk hf
    obtain ⟨fu, rfl⟩ : ∃ m, fu = m + 1 := ⟨fu - 1, by omega⟩
    have hk : p = n := by omega
    subst hk
    refine ⟨p, rfl, ?_⟩
    show fl_X5_passNumber_5 t (fb_X5_passNumber_5 t fu) _ = _
    unfold fl_X5_passNumber_5
    rw [if_pos (by rw [hB.2.1]; exact nI_le (Nat.le_refl _) (by omega))]
    exact fin p k hb (Nat.le_refl _)
  | succ d ih =>
    intro fu p k hb hk hf
    obtain ⟨fu, rfl⟩ : ∃ m, fu = m + 1 := ⟨fu - 1, by omega⟩
    have hc : g p < 2 ^ 31 := Nat.lt_trans (hB.2.2 p (by omega)).2.1 (by decide)
    obtain ⟨q, hq, hi⟩ := ih fu (p + 1) (k + 1) (by omega) (by omega) (by omega)
    have hX : fb_X5_passNumber_5 t (fu + 1) (s, nm, nI p, kd, nI b, nI (vl g b k), fa, fq) = (if dg_ (g p) = true then fb_X5_passNumber_5 t fu (s, nm, nI (p + 1), kd, nI b, nI (vl g b (k + 1)), fa, fq) else fc_X5_passNumber_79 t (s, nm, nI p, kd, nI b, nI (vl g b k), fa, fq)) := by
      show fl_X5_passNumber_5 t (fb_X5_passNumber_5 t fu) _ = _
      unfold fl_X5_passNumber_5
      dsimp only
      rw [if_neg (by rw [hB.2.1]; exact nI_ge (by omega) (by omega)), x_at hB (p := p) (by omega), bnd1_s, x_digit hc, bnd1_s, sub_nI2 (by omega), show p - b = k by omega, bnd1_s, bnd_e, bnd_e, bnd_e, nI_1]
      by_cases hl : dg_ (g p) = true
      · rw [if_neg (by rw [if_pos hl]; decide), if_pos hl]
        have hd := hl
        unfold dg_ at hd
        rw [Bool.and_eq_true, decide_eq_true_eq, decide_eq_true_eq] at hd
        by_cases h4 : 4 ≤ k
        · rw [if_pos (show (4 : Int32) ≤ nI k from nI_le (a := 4) h4 (by omega)), show vl g b (k + 1) = vl g b k from if_pos h4]
        · rw [if_neg (show ¬ (4 : Int32) ≤ nI k from nI_ge (b := 4) (by omega) (by decide)), show vl g b (k + 1) = vl g b k * 10 + (g (b + k) - 48) from if_neg h4, hb, dig_nI hd.1]
      · rw [if_pos (by rw [if_neg hl]), if_neg hl]
    rw [hX]
    by_cases hl : dg_ (g p) = true
    · refine ⟨q, ?_, by rw [if_pos hl]; exact hi⟩
      show q = if (!dg_ (g p)) = true then p else _
      rw [if_neg (by rw [hl]; decide)]
      exact hq
    · refine ⟨p, ?_, by rw [if_neg hl]; exact fin p k hb (by omega)⟩
      show p = if (!dg_ (g p)) = true then p else _
      rw [if_pos (by rw [Bool.not_eq_true] at hl; rw [hl]; rfl)]
theorem m_num {t : V9} {n : Nat} {g : Nat → Nat} {tx : Nat → Int32} (hB : HB t n g tx) {b : Nat} {ra : Int32} {al sv : Nat → Int32} {bg so : Int32} {z : Int64 × Int32 × Int32 × Int32 × (Nat → Int32) × Int32 × Int32 × Int32 × Int32 × Int32 × Int64 × Int64 × (Nat → Int32)} : ∀ (d fu p k : Nat), b + k = p → p + d = n → d < fu → ∃ q : Nat, q = fstk (fun k => !dg_ (g k)) n p d ∧ fb_X12_token_163 fu (ra, al, tx, sv, nI p, nI n, bg, so, nI (vl g b k), z) (nI k) = some (ra, al, tx, sv, nI q, nI n, bg, (if q - b ≤ 4 then 3 else 1), nI (vl g b (q - b)), z) := by
  intro d
  have hn : n ≤ 300 := hB.1
  have fin : ∀ (p k : Nat), b + k = p → p ≤ n → (if nI k ≤ (4 : Int32) then some (ra, al, tx, sv, nI p, nI n, bg, (3 : Int32), nI (vl g b k), z) else some (ra, al, tx, sv, nI p, nI n, bg, (1 : Int32), nI (vl g b k), z)) = some (ra, al, tx, sv, nI p, nI n, bg, (if p - b ≤ 4 then (3 : Int32) else 1), nI (vl g b (p - b)), z) := by
    intro p k hk hp
    rw [show p - b = k by omega]
    by_cases h8 : k ≤ 4
    · rw [if_pos (show nI k ≤ (4 : Int32) from nI_le (b := 4) h8 (by decide)), if_pos h8]
    · rw [if_neg (show ¬ nI k ≤ (4 : Int32) from nI_ge (a := 4) (by omega) (by omega)), if_neg h8]
  induction d with
  | zero =>
    intro fu p k hb hk hf
    obtain ⟨fu, rfl⟩ : ∃ m, fu = m + 1 := ⟨fu - 1, by omega⟩
    have hk : p = n := by omega
    subst hk
    refine ⟨p, rfl, ?_⟩
    show fl_X12_token_163 (fb_X12_token_163 fu) _ _ = _
    unfold fl_X12_token_163
    rw [m_seeE hn _ rfl rfl, bnd1_s, show f_X12_in (-1) 48 57 = some 0 from rfl, bnd1_s, if_pos rfl]
    exact fin p k hb (Nat.le_refl _)
  | succ d ih =>
    intro fu p k hb hk hf
    obtain ⟨fu, rfl⟩ : ∃ m, fu = m + 1 := ⟨fu - 1, by omega⟩
    have hc : g p < 2 ^ 31 := Nat.lt_trans (hB.2.2 p (by omega)).2.1 (by decide)
    obtain ⟨q, hq, hi⟩ := ih fu (p + 1) (k + 1) (by omega) (by omega) (by omega)
    by_cases hl : dg_ (g p) = true
    · refine ⟨q, ?_, ?_⟩
      · show q = if (!dg_ (g p)) = true then p else _
        rw [if_neg (by rw [hl]; decide)]
        exact hq
      · have hd := hl
        unfold dg_ at hd
        rw [Bool.and_eq_true, decide_eq_true_eq, decide_eq_true_eq] at hd
        show fl_X12_token_163 (fb_X12_token_163 fu) _ _ = _
        unfold fl_X12_token_163
        rw [m_see hB (p := p) (by omega) _ rfl rfl rfl, bnd1_s, show f_X12_in (nI (g p)) 48 57 = some (if dg_ (g p) = true then 1 else 0) from x_digit hc, bnd1_s, if_neg (by rw [if_pos hl]; decide), bnd1_s]
        dsimp only
        rw [bnd_e, bnd_e, bnd_e, bnd_e, bnd_e, nI_1, nI_1]
        by_cases h4 : 4 ≤ k
        · rw [show vl g b (k + 1) = vl g b k from if_pos h4] at hi
          rw [if_pos (show (4 : Int32) ≤ nI k from nI_le (a := 4) h4 (by omega))]
          exact hi
        · rw [show vl g b (k + 1) = vl g b k * 10 + (g (b + k) - 48) from if_neg h4, hb] at hi
          rw [if_neg (show ¬ (4 : Int32) ≤ nI k from nI_ge (b := 4) (by omega) (by decide)), Int32.mul_comm, dig_nI hd.1]
          exact hi
    · refine ⟨p, ?_, ?_⟩
      · show p = if (!dg_ (g p)) = true then p else _
        rw [if_pos (by rw [Bool.not_eq_true] at hl; rw [hl]; rfl)]
      · show fl_X12_token_163 (fb_X12_token_163 fu) _ _ = _
        unfold fl_X12_token_163
        rw [m_see hB (p := p) (by omega) _ rfl rfl rfl, bnd1_s, show f_X12_in (nI (g p)) 48 57 = some (if dg_ (g p) = true then 1 else 0) from x_digit hc, bnd1_s, if_pos (by rw [if_neg hl])]
        exact fin p k hb (by omega)
end LX
end mp_48_lx
section mp_49_tn
section TN
/-- a TOKEN of both -/
def TK (n : Nat) (g : Nat → Nat) (b : Nat) (ps kd nu re so va : Int32) (wo : Int64) : Prop := (kd = 0 ∧ so = 0 ∧ b = n ∧ ps = nI n ∧ re = nI n) ∨ (∃ q : Nat, b < q ∧ q ≤ n ∧ ps = nI q ∧ re = nI q ∧ ((kd = 1 ∧ so = 2 ∧ (∀ i, b ≤ i → i < q → lt_ (g i) = true) ∧ wo = (if q - b ≤ 8 then wd g b (q - b) else 0)) ∨ (kd = 2 ∧ so = 3 ∧ ∃ m : Nat, m ≤ 9999 ∧ nu = nI m ∧ va = nI m) ∨ (kd = 3 ∧ so = 4))) ∨ (kd = 4 ∧ so = 1)
theorem fst_no (p : Nat → Bool) {n a d : Nat} (h : a + d = n) : a ≤ fstk p n a d ∧ fstk p n a d ≤ n ∧ ∀ j, a ≤ j → j < fstk p n a d → p j = false := by
  obtain ⟨h1, h2, h3⟩ := fst_ge p n d a (by omega)
  exact ⟨h1, h2, fun j q1 q2 => h3 j q1 q2 (by omega)⟩
theorem fst_up (p : Nat → Bool) {n a d : Nat} (hp : p a = false) (h : a + (d + 1) = n) : a < fstk p n a (d + 1) := by
  have e : fstk p n a (d + 1) = fstk p n (a + 1) d := if_neg (by rw [hp]; decide)
  rw [e]
  exact (fst_no p (n := n) (a := a + 1) (d := d) (by omega)).1
theorem token_loop {t : V9} {n : Nat} {g : Nat → Nat} {tx : Nat → Int32} (hB : HB t n g tx) (kd bg nu fa fq : Int32) {ra : Int32} {al sv : Nat → Int32} {bm so va : Int32} {wo : Int64} {z : Int32 × Int32 × Int32 × (Nat → Int32) × Int32 × Int32 × Int32 × Int32 × Int32 × Int64 × Int64 × (Nat → Int32)} : ∀ (d f1 f2 p : Nat), p + d = n → d < f1 → d < f2 → ∃ (b : Nat) (ps kd2 nu2 re so2 va2 : Int32) (wo2 : Int64), p ≤ b ∧ b ≤ n ∧ (∀ (s : V7) (nm : Nat → Int32), fb_X5_nextToken_0 t f1 (s, nm, nI p, kd, bg, nu, fa, fq) = some (s, nm, ps, kd2, nI b, nu2, fa, fq)) ∧ fb_X12_token_0 f2 (ra, al, tx, sv, nI p, nI n, bm, so, va, wo, z) = some (ra, al, tx, sv, re, nI n, nI b, so2, va2, wo2, z) ∧ TK n g b ps kd2 nu2 re so2 va2 wo2 := by
  intro d
  have hn : n ≤ 300 := hB.1
  induction d with
  | zero =>
    intro f1 f2 p hk hf1 hf2
    obtain ⟨f1, rfl⟩ : ∃ m, f1 = m + 1 := ⟨f1 - 1, by omega⟩
    obtain ⟨f2, rfl⟩ : ∃ m, f2 = m + 1 := ⟨f2 - 1, by omega⟩
    have hk : p = n := by omega
    subst hk
    refine ⟨p, nI p, 0, nu, nI p, 0, va, 0, Nat.le_refl _, Nat.le_refl _, fun s nm => ?_, ?_, Or.inl ⟨rfl, rfl, rfl, rfl, rfl⟩⟩
    · show fl_X5_nextToken_0 t (fb_X5_nextToken_0 t f1) _ = _
      unfold fl_X5_nextToken_0 fc_X5_nextToken_38
      dsimp only
      rw [if_pos (by rw [hB.2.1]; exact nI_le (Nat.le_refl _) (by omega)), x_atE hB, bnd1_s, if_pos rfl]
    · show fl_X12_token_0 (fb_X12_token_0 f2) _ = _
      unfold fl_X12_token_0
      rw [m_seeE hn _ rfl rfl, bnd1_s, if_neg (by decide), bnd1_s, if_neg (by decide), m_seeE hn _ rfl rfl, bnd1_s, if_neg (by decide)]
  | succ d ih =>
    intro f1 f2 p hk hf1 hf2
    obtain ⟨f1, rfl⟩ : ∃ m, f1 = m + 1 := ⟨f1 - 1, by omega⟩
    obtain ⟨f2, rfl⟩ : ∃ m, f2 = m + 1 := ⟨f2 - 1, by omega⟩
    have hc : g p < 2 ^ 31 := Nat.lt_trans (hB.2.2 p (by omega)).2.1 (by decide)
    have hX : ∀ (s : V7) (nm : Nat → Int32), fb_X5_nextToken_0 t (f1 + 1) (s, nm, nI p, kd, bg, nu, fa, fq) = (if bl_ (g p) = true then fb_X5_nextToken_0 t f1 (s, nm, nI (p + 1), kd, bg, nu, fa, fq) else fc_X5_nextToken_38 t (s, nm, nI p, kd, bg, nu, fa, fq)) := by
      intro s nm
      show fl_X5_nextToken_0 t (fb_X5_nextToken_0 t f1) _ = _
      unfold fl_X5_nextToken_0
      dsimp only
      rw [if_neg (by rw [hB.2.1]; exact nI_ge (by omega) (by omega)), x_at hB (p := p) (by omega), bnd1_s, x_blank hc, bnd1_s]
      by_cases hl : bl_ (g p) = true
      · rw [if_neg (by rw [if_pos hl]; decide), if_pos hl, bnd_e, nI_1]
      · rw [if_pos (by rw [if_neg hl]), if_neg hl]
    by_cases hl : bl_ (g p) = true
    · obtain ⟨b, ps, kd2, nu2, re, so2, va2, wo2, a1, a2, a3, a4, a5⟩ := ih f1 f2 (p + 1) (by omega) (by omega) (by omega)
      refine ⟨b, ps, kd2, nu2, re, so2, va2, wo2, by omega, a2, fun s nm => by rw [hX s nm, if_pos hl]; exact a3 s nm, ?_, a5⟩
      refine Eq.trans ?_ a4
      show fl_X12_token_0 (fb_X12_token_0 f2) _ = _
      unfold fl_X12_token_0
      rw [m_see hB (p := p) (by omega) _ rfl rfl rfl, bnd1_s]
      dsimp only
      by_cases h10 : g p = 10
      · rw [if_pos (by rw [h10]; rfl), bnd_e, nI_1]
      · have h32 : g p = 32 := by
          unfold bl_ at hl
          rw [Bool.or_eq_true, decide_eq_true_eq, decide_eq_true_eq] at hl
          omega
        rw [if_neg (show ¬ nI (g p) = (10 : Int32) from fun h => h10 ((nI_eq (b := 10) hc (by decide)).mp h)), bnd1_s, if_pos (by rw [h32]; rfl), bnd_e, nI_1]
    · have hnb : g p ≠ 32 ∧ g p ≠ 10 := by
        unfold bl_ at hl
        rw [Bool.or_eq_true, decide_eq_true_eq, decide_eq_true_eq] at hl
        omega
      have hX2 : ∀ (s : V7) (nm : Nat → Int32), fb_X5_nextToken_0 t (f1 + 1) (s, nm, nI p, kd, bg, nu, fa, fq) = (if lt_ (g p) = true then (bnd1 (f_X5_passWord (s, nm, nI p, kd, nI p, nu, fa, fq) t) fun u_6 => some u_6) else if dg_ (g p) = true then (bnd1 (f_X5_passNumber (s, nm, nI p, kd, nI p, nu, fa, fq) t) fun u_5 => some u_5) else if g p = 59 then some (s, nm, nI (p + 1), 3, nI p, nu, fa, fq) else some (s, nm, nI p, 4, nI p, nu, fa, fq)) := by
        intro s nm
        rw [hX s nm, if_neg hl]
        unfold fc_X5_nextToken_38
        dsimp only
        rw [x_at hB (p := p) (by omega), bnd1_s, if_neg (show ¬ nI (g p) = (-1 : Int32) from fun h => absurd (h ▸ nI_pos hc) (by decide)), x_letter hc, bnd1_s]
        by_cases h1 : lt_ (g p) = true
        · rw [if_neg (by rw [if_pos h1]; decide), if_pos h1]
        · rw [if_pos (by rw [if_neg h1]), if_neg h1, x_digit hc, bnd1_s]
          by_cases h2 : dg_ (g p) = true
          · rw [if_neg (by rw [if_pos h2]; decide), if_pos h2]
          · rw [if_pos (by rw [if_neg h2]), if_neg h2, bnd_e, nI_1]
            by_cases h3 : g p = 59
            · rw [if_pos (by rw [h3]; rfl), if_pos h3]
            · rw [if_neg (show ¬ nI (g p) = (59 : Int32) from fun h => h3 ((nI_eq (b := 59) hc (by decide)).mp h)), if_neg h3]
      have hM2 : fb_X12_token_0 (f2 + 1) (ra, al, tx, sv, nI p, nI n, bm, so, va, wo, z) = (if lt_ (g p) = true then fb_X12_token_74 FU (ra, al, tx, sv, nI p, nI n, nI p, so, va, 0, z) 0 else if dg_ (g p) = true then fb_X12_token_163 FU (ra, al, tx, sv, nI p, nI n, nI p, so, 0, 0, z) 0 else if g p = 59 then some (ra, al, tx, sv, nI (p + 1), nI n, nI p, 4, va, 0, z) else some (ra, al, tx, sv, nI (p + 1), nI n, nI p, 1, va, 0, z)) := by
        show fl_X12_token_0 (fb_X12_token_0 f2) _ = _
        unfold fl_X12_token_0
        rw [m_see hB (p := p) (by omega) _ rfl rfl rfl, bnd1_s]
        rw [if_neg (show ¬ nI (g p) = (10 : Int32) from fun h => hnb.2 ((nI_eq (b := 10) hc (by decide)).mp h)), bnd1_s, if_neg (show ¬ nI (g p) = (32 : Int32) from fun h => hnb.1 ((nI_eq (b := 32) hc (by decide)).mp h)), m_see hB (p := p) (by omega) _ rfl rfl rfl, bnd1_s, if_pos (nI_pos' hc)]
        rw [show f_X12_in (nI (g p)) 97 122 = some (if lt_ (g p) = true then 1 else 0) from x_letter hc, bnd1_s]
        by_cases h1 : lt_ (g p) = true
        · rw [if_neg (by rw [if_pos h1]; decide), if_pos h1]
        · rw [if_pos (by rw [if_neg h1]), if_neg h1, show f_X12_in (nI (g p)) 48 57 = some (if dg_ (g p) = true then 1 else 0) from x_digit hc, bnd1_s]
          by_cases h2 : dg_ (g p) = true
          · rw [if_neg (by rw [if_pos h2]; decide), if_pos h2]
          · rw [if_pos (by rw [if_neg h2]), if_neg h2, bnd_e]
            dsimp only
            rw [nI_1]
            by_cases h3 : g p = 59
            · rw [if_pos (by rw [h3]; rfl), if_pos h3]
            · rw [if_neg (show ¬ nI (g p) = (59 : Int32) from fun h => h3 ((nI_eq (b := 59) hc (by decide)).mp h)), if_neg h3]
      rw [hM2]
      by_cases h1 : lt_ (g p) = true
      · have hm := m_word hB (b := p) (ra := ra) (al := al) (sv := sv) (bg := nI p) (so := so) (va := va) (z := z) (d + 1) FU p 0 rfl hk (by show d + 1 < 8589934592; omega)
        have hu := fst_up (fun k => !lt_ (g k)) (n := n) (a := p) (d := d) (by rw [h1]; rfl) hk
        obtain ⟨q1, q2, q3⟩ := fst_no (fun k => !lt_ (g k)) (n := n) (a := p) (d := d + 1) hk
        refine ⟨p, nI (fstk (fun k => !lt_ (g k)) n p (d + 1)), 1, nu, nI (fstk (fun k => !lt_ (g k)) n p (d + 1)), 2, va, (if fstk (fun k => !lt_ (g k)) n p (d + 1) - p ≤ 8 then wd g p (fstk (fun k => !lt_ (g k)) n p (d + 1) - p) else 0), Nat.le_refl _, by omega, fun s nm => by rw [hX2 s nm, if_pos h1]; unfold f_X5_passWord; rw [x_word hB s nm kd (nI p) nu fa fq (d + 1) FU p hk (by show d + 1 < 8589934592; omega), bnd1_s], by rw [if_pos h1]; exact hm, Or.inr (Or.inl ⟨_, hu, q2, rfl, rfl, Or.inl ⟨rfl, rfl, fun i i1 i2 => ?_, rfl⟩⟩)⟩
        have := q3 i i1 i2
        rw [Bool.not_eq_false'] at this
        exact this
      · rw [if_neg h1]
        by_cases h2 : dg_ (g p) = true
        · obtain ⟨e_, he⟩ : ∃ e_, e_ = fstk (fun k => !dg_ (g k)) n p (d + 1) := ⟨_, rfl⟩
          have hw : ∀ (s : V7) (nm : Nat → Int32), fb_X5_passNumber_5 t FU (s, nm, nI p, kd, nI p, nI (vl g p 0), fa, fq) = some (s, nm, nI e_, (if e_ - p ≤ 4 then 2 else 4), nI p, nI (vl g p (e_ - p)), fa, fq) := by
            intro s nm
            obtain ⟨e2, he2, h⟩ := x_num hB (b := p) s nm kd fa fq (d + 1) FU p 0 rfl hk (by show d + 1 < 8589934592; omega)
            rw [he2, ← he] at h
            exact h
          obtain ⟨e2, he2, hm⟩ := m_num hB (b := p) (ra := ra) (al := al) (sv := sv) (bg := nI p) (so := so) (z := ((0 : Int64), z)) (d + 1) FU p 0 rfl hk (by show d + 1 < 8589934592; omega)
          rw [he2, ← he] at hm
          have hu := fst_up (fun k => !dg_ (g k)) (n := n) (a := p) (d := d) (by rw [h2]; rfl) hk
          obtain ⟨q1, q2, q3⟩ := fst_no (fun k => !dg_ (g k)) (n := n) (a := p) (d := d + 1) hk
          rw [← he] at hu q1 q2 q3
          have hv := vl_lt g p (e_ - p) (fun i hi => by
            have := q3 (p + i) (by omega) (by omega)
            rw [Bool.not_eq_false'] at this
            exact this)
          have hv2 : vl g p (e_ - p) ≤ 9999 := by
            have : 10 ^ min (e_ - p) 4 ≤ 10 ^ 4 := Nat.pow_le_pow_right (by decide) (by omega)
            omega
          refine ⟨p, nI e_, (if e_ - p ≤ 4 then 2 else 4), nI (vl g p (e_ - p)), nI e_, (if e_ - p ≤ 4 then 3 else 1), nI (vl g p (e_ - p)), 0, Nat.le_refl _, by omega, fun s nm => by rw [hX2 s nm, if_neg h1, if_pos h2]; unfold f_X5_passNumber; dsimp only; refine (congrArg (fun o => bnd1 o fun u_5 => some u_5) (hw s nm)).trans (bnd1_s _ _), by rw [if_pos h2]; exact hm, ?_⟩
          by_cases h4 : e_ - p ≤ 4
          · rw [if_pos h4, if_pos h4]
            exact Or.inr (Or.inl ⟨e_, hu, q2, rfl, rfl, Or.inr (Or.inl ⟨rfl, rfl, _, hv2, rfl, rfl⟩)⟩)
          · rw [if_neg h4, if_neg h4]
            exact Or.inr (Or.inr ⟨rfl, rfl⟩)
        · rw [if_neg h2]
          by_cases h3 : g p = 59
          · rw [if_pos h3]
            exact ⟨p, nI (p + 1), 3, nu, nI (p + 1), 4, va, 0, Nat.le_refl _, by omega, fun s nm => by rw [hX2 s nm, if_neg h1, if_neg h2, if_pos h3], rfl, Or.inr (Or.inl ⟨p + 1, by omega, by omega, rfl, rfl, Or.inr (Or.inr ⟨rfl, rfl⟩)⟩)⟩
          · rw [if_neg h3]
            exact ⟨p, nI p, 4, nu, nI (p + 1), 1, va, 0, Nat.le_refl _, by omega, fun s nm => by rw [hX2 s nm, if_neg h1, if_neg h2, if_neg h3], rfl, Or.inr (Or.inr ⟨rfl, rfl⟩)⟩
theorem token_rel {t : V9} {n : Nat} {g : Nat → Nat} {tx : Nat → Int32} (hB : HB t n g tx) (kd bg nu fa fq : Int32) {ra : Int32} {al sv : Nat → Int32} {bm so va : Int32} {wo : Int64} {z : Int32 × Int32 × Int32 × (Nat → Int32) × Int32 × Int32 × Int32 × Int32 × Int32 × Int64 × Int64 × (Nat → Int32)} {p : Nat} (hp : p ≤ n) : ∃ (b : Nat) (ps kd2 nu2 re so2 va2 : Int32) (wo2 : Int64), p ≤ b ∧ b ≤ n ∧ (∀ (s : V7) (nm : Nat → Int32), f_X5_nextToken (s, nm, nI p, kd, bg, nu, fa, fq) t = some (s, nm, ps, kd2, nI b, nu2, fa, fq)) ∧ f_X12_token (ra, al, tx, sv, nI p, nI n, bm, so, va, wo, z) = some (ra, al, tx, sv, re, nI n, nI b, so2, va2, wo2, z) ∧ TK n g b ps kd2 nu2 re so2 va2 wo2 := by
  have hn := hB.1
  exact token_loop hB kd bg nu fa fq (n - p) FU FU p (by omega) (by show n - p < 8589934592; omega) (by show n - p < 8589934592; omega)
end TN
end mp_49_tn
section mp_50_wo
section WO
/-- letters as a number, base 256 -/
def pkN (g : Nat → Nat) (b : Nat) : Nat → Nat
  | 0 => 0
  | k + 1 => pkN g b k * 256 + g (b + k)
theorem pkN_lt (g : Nat → Nat) (b : Nat) : ∀ k, (∀ i, i < k → g (b + i) < 256) → pkN g b k < 256 ^ k
  | 0, _ => by show 0 < 256 ^ 0; decide
  | k + 1, h => by
    have ih := pkN_lt g b k (fun i hi => h i (by omega))
    have hk := h k (by omega)
    show pkN g b k * 256 + g (b + k) < _
    rw [Nat.pow_succ]
    omega
theorem pkN_inj (g h : Nat → Nat) (a b : Nat) : ∀ k m, (∀ i, i < k → 0 < g (a + i) ∧ g (a + i) < 256) → (∀ i, i < m → 0 < h (b + i) ∧ h (b + i) < 256) → pkN g a k = pkN h b m → k = m ∧ ∀ i, i < k → g (a + i) = h (b + i)
  | 0, 0, _, _, _ => ⟨rfl, fun i hi => absurd hi (by omega)⟩
  | 0, m + 1, _, h2, e => by
    have e : 0 = pkN h b m * 256 + h (b + m) := e
    have := h2 m (by omega)
    omega
  | k + 1, 0, h1, _, e => by
    have e : pkN g a k * 256 + g (a + k) = 0 := e
    have := h1 k (by omega)
    omega
  | k + 1, m + 1, h1, h2, e => by
    have e : pkN g a k * 256 + g (a + k) = pkN h b m * 256 + h (b + m) := e
    have g1 := h1 k (by omega)
    have g2 := h2 m (by omega)
    obtain ⟨i1, i2⟩ := pkN_inj g h a b k m (fun i hi => h1 i (by omega)) (fun i hi => h2 i (by omega)) (by omega)
    subst i1
    refine ⟨rfl, fun i hi => ?_⟩
    by_cases hk : i = k
    · subst hk; omega
    · exact i2 i (by omega)
theorem pkN_eq (g h : Nat → Nat) (a b : Nat) : ∀ k, (∀ i, i < k → g (a + i) = h (b + i)) → pkN g a k = pkN h b k
  | 0, _ => rfl
  | k + 1, e => by
    show pkN g a k * 256 + g (a + k) = pkN h b k * 256 + h (b + k)
    rw [pkN_eq g h a b k (fun i hi => e i (by omega)), e k (by omega)]
theorem wd_N (g : Nat → Nat) (b : Nat) : ∀ k, k ≤ 8 → (∀ i, i < k → g (b + i) < 256) → (wd g b k).toBitVec.toNat = pkN g b k
  | 0, _, _ => rfl
  | k + 1, hk, h => by
    have ih := wd_N g b k (by omega) (fun i hi => h i (by omega))
    have hl := pkN_lt g b k (fun i hi => h i (by omega))
    have hc := h k (by omega)
    have hp : 256 ^ k ≤ 256 ^ 7 := Nat.pow_le_pow_right (by decide) (by omega)
    have hc2 : (Int32.toInt64 (nI (g (b + k)))).toBitVec.toNat = g (b + k) := by
      rw [nI_l (by omega)]
      show (g (b + k)) % 2 ^ 64 = _
      exact Nat.mod_eq_of_lt (by omega)
    have hs : (jlshl (wd g b k) 8).toBitVec.toNat = pkN g b k * 256 := by
      show ((wd g b k).toBitVec <<< (8 : Nat)).toNat = _
      rw [BitVec.toNat_shiftLeft, ih, Nat.shiftLeft_eq]
      exact Nat.mod_eq_of_lt (by omega)
    show ((jlshl (wd g b k) 8).toBitVec ||| (Int32.toInt64 (nI (g (b + k)))).toBitVec).toNat = pkN g b k * 256 + g (b + k)
    rw [BitVec.toNat_or, hs, hc2]
    have := Nat.shiftLeft_add_eq_or_of_lt (a := pkN g b k) (show g (b + k) < 2 ^ 8 by omega)
    rw [Nat.shiftLeft_eq] at this
    exact this.symm
def cN (w k : Nat) : Nat := (sch w k).toNatClampNeg
/-- the ten words as numbers -/
def Cn (w : Nat) : Nat := [109299962372965, 7106407, 131294707347319, 495873782388, 422726034283, 7304564, 1651073395, 495874302827, 1936024932, 495875089259].getD w 0
theorem Cn_ev : ∀ w, w < 10 → lenS.getD w 0 ≤ 8 ∧ 0 < Cn w ∧ pkN (cN w) 0 (lenS.getD w 0) = Cn w ∧ ∀ k, k < lenS.getD w 0 → sch w k = nI (cN w k) ∧ 0 < cN w k ∧ cN w k < 256 := by decide +kernel
/-- what both read of a word -/
def wN (g : Nat → Nat) (b q : Nat) : Nat := if q - b ≤ 8 then pkN g b (q - b) else 0
theorem has_loop {t : V9} {n : Nat} {g : Nat → Nat} {tx : Nat → Int32} (hB : HB t n g tx) {w b : Nat} (hw : w < 10) (hb : b + lenS.getD w 0 ≤ n) : ∀ (d fu k : Nat), k + d = lenS.getD w 0 → d < fu → ∃ r : Int32, fb_X9_hasWord_15 t fu (nI b) w (nI k) = some r ∧ ((r = 1 ∧ ∀ i, k ≤ i → i < lenS.getD w 0 → g (b + i) = cN w i) ∨ (r = 0 ∧ ∃ i, k ≤ i ∧ i < lenS.getD w 0 ∧ g (b + i) ≠ cN w i)) := by
  intro d
  have hn : n ≤ 300 := hB.1
  obtain ⟨e1, e2, e3, e4⟩ := Cn_ev w hw
  have hlen : f_J0_length_8abf5 w = some (nI (lenS.getD w 0)) := by
    unfold f_J0_length_8abf5
    rw [if_pos hw]
    rfl
  induction d with
  | zero =>
    intro fu k hk hf
    obtain ⟨fu, rfl⟩ : ∃ m, fu = m + 1 := ⟨fu - 1, by omega⟩
    refine ⟨1, ?_, Or.inl ⟨rfl, fun i i1 i2 => absurd i2 (by omega)⟩⟩
    show fl_X9_hasWord_15 t (fb_X9_hasWord_15 t fu) _ _ _ = _
    unfold fl_X9_hasWord_15
    rw [hlen, bnd1_s, if_pos (nI_le (by omega) (by omega))]
  | succ d ih =>
    intro fu k hk hf
    obtain ⟨fu, rfl⟩ : ∃ m, fu = m + 1 := ⟨fu - 1, by omega⟩
    obtain ⟨r, i1, i2⟩ := ih fu (k + 1) (by omega) (by omega)
    obtain ⟨c1, c2, c3⟩ := e4 k (by omega)
    have hc : g (b + k) < 2 ^ 31 := Nat.lt_trans (hB.2.2 (b + k) (by omega)).2.1 (by decide)
    have hch : f_J0_charAt_5068e w (nI k) = some (nI (cN w k)) := by
      unfold f_J0_charAt_5068e
      rw [if_pos hw, chk_nI (by omega) (by omega), nI_clamp (by omega), c1]
    have hX : fb_X9_hasWord_15 t (fu + 1) (nI b) w (nI k) = (if g (b + k) = cN w k then fb_X9_hasWord_15 t fu (nI b) w (nI (k + 1)) else some 0) := by
      show fl_X9_hasWord_15 t (fb_X9_hasWord_15 t fu) _ _ _ = _
      unfold fl_X9_hasWord_15
      rw [hlen, bnd1_s, if_neg (nI_ge (by omega) (by omega)), nI_add, x_at hB (p := b + k) (by omega), bnd1_s, hch, bnd1_s, bnd_e, nI_1]
      by_cases he : g (b + k) = cN w k
      · rw [if_pos (by rw [he]), if_pos he]
      · rw [if_neg (fun h => he ((nI_eq hc (by omega)).mp h)), if_neg he]
    rw [hX]
    by_cases he : g (b + k) = cN w k
    · rw [if_pos he]
      refine ⟨r, i1, ?_⟩
      rcases i2 with ⟨z1, z2⟩ | ⟨z1, j, z2, z3, z4⟩
      · refine Or.inl ⟨z1, fun i q1 q2 => ?_⟩
        by_cases hi : i = k
        · rw [hi]; exact he
        · exact z2 i (by omega) q2
      · exact Or.inr ⟨z1, j, by omega, z3, z4⟩
    · rw [if_neg he]
      exact ⟨0, rfl, Or.inr ⟨rfl, k, Nat.le_refl _, by omega, he⟩⟩
theorem has_rel {t : V9} {n : Nat} {g : Nat → Nat} {tx : Nat → Int32} (hB : HB t n g tx) {w b e_ : Nat} (hw : w < 10) (hb : b < e_) (he : e_ ≤ n) : f_X9_hasWord t (nI b) (nI e_) w = some (if wN g b e_ = Cn w then 1 else 0) := by
  have hn : n ≤ 300 := hB.1
  obtain ⟨e1, e2, e3, e4⟩ := Cn_ev w hw
  have hlen : f_J0_length_8abf5 w = some (nI (lenS.getD w 0)) := by
    unfold f_J0_length_8abf5
    rw [if_pos hw]
    rfl
  have hg : ∀ i, i < e_ - b → 0 < g (b + i) ∧ g (b + i) < 256 := fun i hi => ⟨(hB.2.2 (b + i) (by omega)).1, (hB.2.2 (b + i) (by omega)).2.1⟩
  have hc : ∀ i, i < lenS.getD w 0 → 0 < cN w (0 + i) ∧ cN w (0 + i) < 256 := fun i hi => by rw [Nat.zero_add]; exact (e4 i hi).2
  unfold f_X9_hasWord
  rw [hlen, bnd1_s, sub_nI2 (by omega)]
  by_cases hl : e_ - b = lenS.getD w 0
  · rw [if_pos (by rw [hl])]
    obtain ⟨r, i1, i2⟩ := has_loop hB hw (b := b) (by omega) (lenS.getD w 0) FU 0 (by omega) (by show _ < 8589934592; omega)
    refine Eq.trans i1 ?_
    unfold wN
    rw [if_pos (show e_ - b ≤ 8 by omega)]
    rcases i2 with ⟨z1, z2⟩ | ⟨z1, j, z2, z3, z4⟩
    · rw [z1, if_pos]
      rw [hl, ← e3]
      exact pkN_eq g (cN w) b 0 _ (fun i hi => by rw [Nat.zero_add]; exact z2 i (by omega) hi)
    · rw [z1, if_neg]
      intro h
      rw [← e3] at h
      have := (pkN_inj g (cN w) b 0 _ _ hg hc h).2 j (by omega)
      rw [Nat.zero_add] at this
      exact z4 this
  · rw [if_neg (fun h => hl ((nI_eq (by omega) (by omega)).mp h)), if_neg]
    unfold wN
    by_cases h8 : e_ - b ≤ 8
    · rw [if_pos h8]
      intro h
      rw [← e3] at h
      exact hl (pkN_inj g (cN w) b 0 _ _ hg hc h).1
    · rw [if_neg h8]
      omega
end WO
end mp_50_wo
section mp_51_ws
section WS
theorem fst_all (p : Nat → Bool) (d : Nat) : ∀ (m a : Nat), (∀ j, a ≤ j → j < a + m → p j = false) → fstk p d a m = d
  | 0, _, _ => rfl
  | m + 1, a, h => by
    show (if p a = true then a else fstk p d (a + 1) m) = d
    rw [if_neg (by rw [h a (by omega) (by omega)]; decide)]
    exact fst_all p d m (a + 1) (fun j h1 h2 => h j (by omega) (by omega))
/-- which of the ten words; 10: none -/
def sx (x : Nat) : Nat := fstk (fun w => decide (x = Cn w)) 10 0 10
theorem wordOf_nI : ∀ k, k < 10 → f_X5_wordOf (nI k) = some k := by decide
theorem x_sett {t : V9} {n : Nat} {g : Nat → Nat} {tx : Nat → Int32} (hB : HB t n g tx) {b e_ : Nat} (hb : b < e_) (he : e_ ≤ n) {u : V5} (u1 : u.2.2.2.2.1 = nI b) (u2 : u.2.2.1 = nI e_) : ∀ (d fu k : Nat), k + d = 10 → d < fu → fb_X5_settingOf_2 u t fu (nI k) = some (if fstk (fun w => decide (wN g b e_ = Cn w)) 10 k d = 10 then -1 else nI (fstk (fun w => decide (wN g b e_ = Cn w)) 10 k d)) := by
  intro d
  induction d with
  | zero =>
    intro fu k hk hf
    obtain ⟨fu, rfl⟩ : ∃ m, fu = m + 1 := ⟨fu - 1, by omega⟩
    have hk : k = 10 := by omega
    subst hk
    show fl_X5_settingOf_2 u t (fb_X5_settingOf_2 u t fu) _ = _
    unfold fl_X5_settingOf_2
    rw [if_pos (show (9 : Int32) < nI 10 by decide), show fstk (fun w => decide (wN g b e_ = Cn w)) 10 10 0 = 10 from rfl, if_pos rfl]
  | succ d ih =>
    intro fu k hk hf
    obtain ⟨fu, rfl⟩ : ∃ m, fu = m + 1 := ⟨fu - 1, by omega⟩
    have hi := ih fu (k + 1) (by omega) (by omega)
    show fl_X5_settingOf_2 u t (fb_X5_settingOf_2 u t fu) _ = _
    unfold fl_X5_settingOf_2
    rw [if_neg (show ¬ (9 : Int32) < nI k from nI_nlt (a := 9) (by omega) (by decide)), wordOf_nI k (by omega), bnd1_s, u1, u2, has_rel hB (by omega) hb he, bnd1_s, bnd_e, nI_1]
    by_cases h : wN g b e_ = Cn k
    · have e : fstk (fun w => decide (wN g b e_ = Cn w)) 10 k (d + 1) = k := if_pos (decide_eq_true h)
      rw [e, if_neg (by rw [if_pos h]; decide), if_neg (by omega)]
    · have e : fstk (fun w => decide (wN g b e_ = Cn w)) 10 k (d + 1) = fstk (fun w => decide (wN g b e_ = Cn w)) 10 (k + 1) d := if_neg (by rw [decide_eq_true_eq]; exact h)
      rw [e, if_pos (by rw [if_neg h])]
      exact hi
theorem m_sett {wo : Int64} {x : Nat} (h : wo.toBitVec.toNat = x) : f_X12_settingOf wo = some (if sx x < 9 then nI (sx x) else -1) ∧ (wo = 495875089259 ↔ sx x = 9) := by
  have key : ∀ c : Int64, wo = c ↔ x = c.toBitVec.toNat := fun c => ⟨fun e => by rw [← h, e], fun e => Int64.toBitVec_inj.mp (BitVec.eq_of_toNat_eq (by rw [h, e]))⟩
  by_cases h0 : x = 109299962372965
  · rw [(key 109299962372965).mpr h0, h0]
    decide +kernel
  by_cases h1 : x = 7106407
  · rw [(key 7106407).mpr h1, h1]
    decide +kernel
  by_cases h2 : x = 131294707347319
  · rw [(key 131294707347319).mpr h2, h2]
    decide +kernel
  by_cases h3 : x = 495873782388
  · rw [(key 495873782388).mpr h3, h3]
    decide +kernel
  by_cases h4 : x = 422726034283
  · rw [(key 422726034283).mpr h4, h4]
    decide +kernel
  by_cases h5 : x = 7304564
  · rw [(key 7304564).mpr h5, h5]
    decide +kernel
  by_cases h6 : x = 1651073395
  · rw [(key 1651073395).mpr h6, h6]
    decide +kernel
  by_cases h7 : x = 495874302827
  · rw [(key 495874302827).mpr h7, h7]
    decide +kernel
  by_cases h8 : x = 1936024932
  · rw [(key 1936024932).mpr h8, h8]
    decide +kernel
  by_cases h9 : x = 495875089259
  · rw [(key 495875089259).mpr h9, h9]
    decide +kernel
  have hs : sx x = 10 := fst_all _ 10 10 0 (fun j _ hj => by
    match j, hj with
    | 0, _ => exact decide_eq_false h0
    | 1, _ => exact decide_eq_false h1
    | 2, _ => exact decide_eq_false h2
    | 3, _ => exact decide_eq_false h3
    | 4, _ => exact decide_eq_false h4
    | 5, _ => exact decide_eq_false h5
    | 6, _ => exact decide_eq_false h6
    | 7, _ => exact decide_eq_false h7
    | 8, _ => exact decide_eq_false h8
    | 9, _ => exact decide_eq_false h9
    | j + 10, hj => exact absurd hj (by omega))
  rw [hs]
  refine ⟨?_, fun e => absurd ((key 495875089259).mp e) h9, fun e => absurd e (by decide)⟩
  unfold f_X12_settingOf
  rw [if_neg (show ¬ wo = 109299962372965 from fun e => h0 ((key 109299962372965).mp e)), if_neg (show ¬ wo = 7106407 from fun e => h1 ((key 7106407).mp e)), if_neg (show ¬ wo = 131294707347319 from fun e => h2 ((key 131294707347319).mp e)), if_neg (show ¬ wo = 495873782388 from fun e => h3 ((key 495873782388).mp e)), if_neg (show ¬ wo = 422726034283 from fun e => h4 ((key 422726034283).mp e)), if_neg (show ¬ wo = 7304564 from fun e => h5 ((key 7304564).mp e)), if_neg (show ¬ wo = 1651073395 from fun e => h6 ((key 1651073395).mp e)), if_neg (show ¬ wo = 495874302827 from fun e => h7 ((key 495874302827).mp e)), if_neg (show ¬ wo = 1936024932 from fun e => h8 ((key 1936024932).mp e)), if_neg (by decide)]
/-- the word that both read -/
theorem word_N {t : V9} {n : Nat} {g : Nat → Nat} {tx : Nat → Int32} (hB : HB t n g tx) {b e_ : Nat} (hb : b < e_) (he : e_ ≤ n) : (if e_ - b ≤ 8 then wd g b (e_ - b) else 0 : Int64).toBitVec.toNat = wN g b e_ := by
  unfold wN
  by_cases h8 : e_ - b ≤ 8
  · rw [if_pos h8, if_pos h8]
    exact wd_N g b _ h8 (fun i hi => (hB.2.2 (b + i) (by omega)).2.1)
  · rw [if_neg h8, if_neg h8]
    rfl
end WS
end mp_51_ws
section mp_52_fi
section FI
theorem m_first {ra : Int32} {al tx sv : Nat → Int32} {le bg so va : Int32} {wo : Int64} {wr : Int32} {rz : Int32 × Int32 × Int32 × Int32 × Int32 × Int64 × Int64 × (Nat → Int32)} : ∀ (d fu k : Nat) (re ba bd : Int32) (to : Nat → Int32), k + d = 22 → d < fu → (∀ j, j < k → to j = 0) → ∃ to2 : Nat → Int32, fb_X12_atFirst_2 fu (ra, al, tx, sv, re, le, bg, so, va, wo, wr, ba, bd, to, rz) (nI k) = some (ra, al, tx, sv, 0, le, bg, so, va, wo, wr, -1, 0, to2, rz) ∧ (∀ j, j < 9 → to2 j = stF j) ∧ ∀ j, 9 ≤ j → j < 22 → to2 j = 0 := by
  intro d
  induction d with
  | zero =>
    intro fu k re ba bd to hk hf h0
    obtain ⟨fu, rfl⟩ : ∃ m, fu = m + 1 := ⟨fu - 1, by omega⟩
    have hk : k = 22 := by omega
    subst hk
    refine ⟨upd (upd (upd (upd (upd (upd (upd (upd to 0 10) 1 20) 2 15) 3 32) 4 16) 5 4) 6 8) 8 1, ?_, fun j hj => ?_, fun j h1 h2 => ?_⟩
    · show fl_X12_atFirst_2 (fb_X12_atFirst_2 fu) _ _ = _
      unfold fl_X12_atFirst_2
      rw [if_pos (show (22 : Int32) ≤ nI 22 by decide)]
      rfl
    · match j, hj with
      | 0, _ => rfl
      | 1, _ => rfl
      | 2, _ => rfl
      | 3, _ => rfl
      | 4, _ => rfl
      | 5, _ => rfl
      | 6, _ => rfl
      | 7, _ => exact h0 7 (by omega)
      | 8, _ => rfl
      | j + 9, hj => exact absurd hj (by omega)
    · rw [upd_n (by omega), upd_n (by omega), upd_n (by omega), upd_n (by omega), upd_n (by omega), upd_n (by omega), upd_n (by omega), upd_n (by omega)]
      exact h0 j h2
  | succ d ih =>
    intro fu k re ba bd to hk hf h0
    obtain ⟨fu, rfl⟩ : ∃ m, fu = m + 1 := ⟨fu - 1, by omega⟩
    obtain ⟨to2, i1, i2⟩ := ih fu (k + 1) re ba bd (upd to k 0) (by omega) (by omega) (fun j hj => by
      by_cases e : j = k
      · rw [e]; exact upd_s _ _ _
      · rw [upd_n e]; exact h0 j (by omega))
    refine ⟨to2, ?_, i2⟩
    show fl_X12_atFirst_2 (fb_X12_atFirst_2 fu) _ _ = _
    unfold fl_X12_atFirst_2
    rw [if_neg (show ¬ (22 : Int32) ≤ nI k from nI_ge (b := 22) (by omega) (by decide)), chk_nI (by omega) (by decide), nI_clamp (by omega), bnd_e, bnd_e, nI_1]
    exact i1
theorem m_taken : ∀ (d fu k : Nat) (v : V12), k + d = 942 → d < fu → ∃ F2 : Nat → Int32, fb_X12_taken_2 fu v (nI k) = some (v.1, F2, v.2.2) ∧ (∀ j, j < 22 → F2 j = if k ≤ j then v.2.2.2.2.2.2.2.2.2.2.2.2.2.1 j else v.2.1 j) ∧ (F2 22 = if k ≤ 8 then v.2.2.2.2.2.2.2.2.2.2.2.2.2.1 8 else v.2.1 8) ∧ (∀ j, 23 ≤ j → j < 942 → F2 j = if k ≤ j then 0 else v.2.1 j) ∧ ∀ j, 942 ≤ j → F2 j = v.2.1 j := by
  intro d
  induction d with
  | zero =>
    intro fu k v hk hf
    obtain ⟨fu, rfl⟩ : ∃ m, fu = m + 1 := ⟨fu - 1, by omega⟩
    have hk : k = 942 := by omega
    subst hk
    refine ⟨upd v.2.1 22 (v.2.1 8), ?_, fun j hj => ?_, ?_, fun j h1 h2 => ?_, fun j hj => upd_n (by omega)⟩
    · show fl_X12_taken_2 (fb_X12_taken_2 fu) _ _ = _
      unfold fl_X12_taken_2
      rw [if_pos (show (942 : Int32) ≤ nI 942 by decide)]
      rfl
    · rw [if_neg (by omega), upd_n (by omega)]
    · rw [if_neg (by omega), upd_s]
    · rw [if_neg (by omega), upd_n (by omega)]
  | succ d ih =>
    intro fu k v hk hf
    obtain ⟨fu, rfl⟩ : ∃ m, fu = m + 1 := ⟨fu - 1, by omega⟩
    obtain ⟨F2, i1, i2, i3, i4, i5⟩ := ih fu (k + 1) (v.1, upd v.2.1 k (if 22 ≤ k then 0 else v.2.2.2.2.2.2.2.2.2.2.2.2.2.1 k), v.2.2) (by omega) (by omega)
    dsimp only at i2 i3 i4 i5
    refine ⟨F2, ?_, fun j hj => ?_, ?_, fun j h1 h2 => ?_, fun j hj => ?_⟩
    · refine Eq.trans ?_ i1
      show fl_X12_taken_2 (fb_X12_taken_2 fu) _ _ = _
      unfold fl_X12_taken_2
      rw [if_neg (show ¬ (942 : Int32) ≤ nI k from nI_ge (b := 942) (by omega) (by decide))]
      by_cases h22 : 22 ≤ k
      · rw [if_pos (show (22 : Int32) ≤ nI k from nI_le (a := 22) h22 (by omega)), chk_nI (by omega) (by decide), nI_clamp (by omega), bnd_e, bnd_e, nI_1, if_pos h22]
      · rw [if_neg (show ¬ (22 : Int32) ≤ nI k from nI_ge (b := 22) (by omega) (by decide)), chk_nI (by omega) (by decide), chk_nI (by omega) (by decide), nI_clamp (by omega), bnd_e, bnd_e, nI_1, if_neg h22]
    · rw [i2 j hj]
      by_cases e : j = k
      · subst e
        rw [if_neg (by omega), upd_s, if_neg (by omega), if_pos (Nat.le_refl _)]
      · by_cases h : k ≤ j
        · rw [if_pos (by omega), if_pos h]
        · rw [if_neg (by omega), if_neg h, upd_n e]
    · rw [i3]
      by_cases e : k = 8
      · subst e
        rw [if_neg (by omega), upd_s, if_neg (by omega), if_pos (Nat.le_refl _)]
      · by_cases h : k ≤ 8
        · rw [if_pos (by omega), if_pos h]
        · rw [if_neg (by omega), if_neg h, upd_n (by omega)]
    · rw [i4 j h1 h2]
      by_cases e : j = k
      · subst e
        rw [if_neg (by omega), upd_s, if_pos (by omega), if_pos (Nat.le_refl _)]
      · by_cases h : k ≤ j
        · rw [if_pos (by omega), if_pos h]
        · rw [if_neg (by omega), if_neg h, upd_n e]
    · rw [i5 j hj, upd_n (by omega)]
theorem m_taken2 (v : V12) : ∃ F2 : Nat → Int32, f_X12_taken v = some (v.1, F2, v.2.2) ∧ (∀ j, j < 22 → F2 j = v.2.2.2.2.2.2.2.2.2.2.2.2.2.1 j) ∧ F2 22 = F2 8 ∧ (∀ j, 23 ≤ j → j < 942 → F2 j = nI 0) ∧ ∀ j, 942 ≤ j → F2 j = v.2.1 j := by
  obtain ⟨F2, i1, i2, i3, i4, i5⟩ := m_taken 942 FU 0 v (by omega) (by show 942 < 8589934592; omega)
  refine ⟨F2, i1, fun j hj => by rw [i2 j hj, if_pos (Nat.zero_le _)], by rw [i3, i2 8 (by omega), if_pos (Nat.zero_le _)], fun j h1 h2 => by rw [i4 j h1 h2, if_pos (Nat.zero_le _)]; rfl, i5⟩
end FI
end mp_52_fi
section mp_53_nu
section NU
/-- what was noted before b -/
def FB (b : Nat) (fa fq ba bd : Int32) : Prop := bd = fa ∧ ((fa = 0 ∧ ba = -1) ∨ ((fa = 2 ∨ fa = 3) ∧ ba = fq ∧ ∃ a : Nat, a < b ∧ fq = nI a))
theorem FB.up {b b2 : Nat} {fa fq ba bd : Int32} (h : FB b fa fq ba bd) (hb : b ≤ b2) : FB b2 fa fq ba bd := by
  obtain ⟨h1, h2⟩ := h
  refine ⟨h1, ?_⟩
  rcases h2 with h2 | ⟨h2, h3, a, h4, h5⟩
  · exact Or.inl h2
  · exact Or.inr ⟨h2, h3, a, by omega, h5⟩
theorem note_rel {b : Nat} {fa fq ba bd cd : Int32} (h : FB b fa fq ba bd) (hb : b < 2 ^ 31) (hcd : cd = 2 ∨ cd = 3) (s : V7) (nm : Nat → Int32) (ps kd nu : Int32) {ra : Int32} {al tx sv : Nat → Int32} {re le bg so va : Int32} {wo : Int64} {wr : Int32} {z : (Nat → Int32) × Int32 × Int32 × Int32 × Int32 × Int32 × Int64 × Int64 × (Nat → Int32)} : ∃ fa2 fq2 ba2 : Int32, f_X5_note (s, nm, ps, kd, nI b, nu, fa, fq) cd = some (s, nm, ps, kd, nI b, nu, fa2, fq2) ∧ f_X12_isBad (ra, al, tx, sv, re, le, bg, so, va, wo, wr, ba, bd, z) cd (nI b) = some (ra, al, tx, sv, re, le, bg, so, va, wo, wr, ba2, fa2, z) ∧ fa2 ≠ 0 ∧ FB (b + 1) fa2 fq2 ba2 fa2 := by
  obtain ⟨h1, h2⟩ := h
  subst h1
  have hne : cd ≠ 0 := by
    rcases hcd with e | e <;> rw [e] <;> decide
  by_cases h0 : bd = 0
  · subst h0
    refine ⟨cd, nI b, nI b, ?_, ?_, hne, rfl, Or.inr ⟨hcd, rfl, b, by omega, rfl⟩⟩
    · unfold f_X5_note
      dsimp only
      rw [if_pos rfl]
    · unfold f_X12_isBad
      dsimp only
      rw [if_pos rfl]
  · rcases h2 with h2 | ⟨h2, h3, a, h4, h5⟩
    · exact absurd h2.1 h0
    · subst h3
      subst h5
      refine ⟨bd, nI a, nI a, ?_, ?_, h0, rfl, Or.inr ⟨h2, rfl, a, by omega, rfl⟩⟩
      · unfold f_X5_note
        dsimp only
        rw [if_neg h0]
      · unfold f_X12_isBad
        dsimp only
        rw [if_neg h0, if_neg (nI_nlt (by omega) hb), if_neg (fun e => absurd ((nI_eq hb (by omega)).mp e) (by omega))]
theorem takes_num {n b m lo hi : Nat} (hm : m ≤ 9999) (hlo : lo < 2 ^ 31) (hhi : hi < 2 ^ 31) {ra : Int32} {al tx sv : Nat → Int32} {re : Int32} {wo : Int64} {wr ba bd rd : Int32} {to : Nat → Int32} {z : Int32 × Int32 × Int32 × Int32 × Int64 × Int64 × (Nat → Int32)} : f_X12_takes (ra, al, tx, sv, re, nI n, nI b, 3, nI m, wo, wr, ba, bd, to, rd, z) (nI lo) (nI hi) = (if (decide (lo ≤ m) && decide (m ≤ hi)) = true then bnd1 (f_X12_token (ra, al, tx, sv, re, nI n, nI b, 3, nI m, wo, wr, ba, bd, to, nI m, z)) (fun u_2 => some ((1 : Int32), u_2)) else bnd1 (f_X12_isBad (ra, al, tx, sv, re, nI n, nI b, 3, nI m, wo, wr, ba, bd, to, nI m, z) 2 (nI b)) fun u_3 => bnd1 (f_X12_token u_3) (fun u_2 => some ((1 : Int32), u_2))) := by
  unfold f_X12_takes fc_X12_takes_42
  dsimp only
  rw [if_pos rfl, m_in2 hlo hhi (by omega), bnd1_s]
  by_cases h : (decide (lo ≤ m) && decide (m ≤ hi)) = true
  · rw [if_neg (by rw [if_pos h]; decide), if_pos h]
  · rw [if_pos (by rw [if_neg h]), if_neg h]
theorem least_nI : ∀ k, k < 9 → f_X12_leastOf (nI k) = some (stL k) ∧ f_X12_mostOf (nI k) = some (stM k) := by decide
end NU
end mp_53_nu
section mp_54_rs
section RSG
/-- one number of a line, class -/
theorem x_rs {t : V9} {u0 : V5} {s : V7} {nm : Nat → Int32} {ps kd bg nu fa fq x2 x3 : Int32} {fu k : Nat} (hk : k < 3) (h3 : ¬ x3 ≤ nI k) (hT : f_X5_nextToken u0 t = some (s, nm, ps, kd, bg, nu, fa, fq)) : fb_X5_readSetting_66 t (fu + 1) u0 x2 x3 (nI k) = (if kd = 2 then (bnd1 (f_X5_canBe (s, nm, ps, kd, bg, nu, fa, fq) x2 (nI k)) fun r_4 => if r_4 = 0 then (bnd1 (f_X5_note (s, nm, ps, kd, bg, nu, fa, fq) 2) fun u_7 => fb_X5_readSetting_66 t fu (u_7.1, upd u_7.2.1 k u_7.2.2.2.2.2.1, u_7.2.2) x2 x3 (nI (k + 1))) else fb_X5_readSetting_66 t fu (s, upd nm k nu, ps, kd, bg, nu, fa, fq) x2 x3 (nI (k + 1))) else some (0, (s, nm, ps, kd, bg, nu, fa, fq))) := by
  show fl_X5_readSetting_66 t (fb_X5_readSetting_66 t fu) u0 x2 x3 (nI k) = _
  unfold fl_X5_readSetting_66
  rw [if_neg h3, hT, bnd1_s]
  dsimp only
  by_cases h2 : kd = 2
  · rw [if_pos h2, if_pos h2]
    cases f_X5_canBe (s, nm, ps, kd, bg, nu, fa, fq) x2 (nI k) with
    | none => rfl
    | some r =>
      rw [bnd1_s, bnd1_s]
      by_cases hr : r = 0
      · rw [if_pos hr, if_pos hr]
        cases f_X5_note (s, nm, ps, kd, bg, nu, fa, fq) 2 with
        | none => rfl
        | some u =>
          rw [bnd1_s, bnd1_s, chk_nI hk (by decide), bnd_e, bnd_e, nI_1, nI_clamp (by omega)]
      · rw [if_neg hr, if_neg hr, chk_nI hk (by decide), bnd_e, bnd_e, nI_1, nI_clamp (by omega)]
  · rw [if_neg h2, if_neg h2]
end RSG
end mp_54_rs
section mp_55_nr
section NR
/-- one number of a line, both -/
theorem num_rel {t : V9} {n : Nat} {g : Nat → Nat} {tx : Nat → Int32} (hB : HB t n g tx) {b : Nat} {s : V7} {nm : Nat → Int32} {ps kd nu fa fq re so va : Int32} {wo : Int64} {u0 : V5} {x2 x3 : Int32} {fu k lo hi : Nat} {ra : Int32} {al sv : Nat → Int32} {wr ba bd rd : Int32} {to : Nat → Int32} {z : Int32 × Int32 × Int32 × Int32 × Int64 × Int64 × (Nat → Int32)} (hT : TK n g b ps kd nu re so va wo) (hF : FB b fa fq ba bd) (hbn : b ≤ n) (hk : k < 3) (h3 : ¬ x3 ≤ nI k) (hu : f_X5_nextToken u0 t = some (s, nm, ps, kd, nI b, nu, fa, fq)) (hlo : lo < 2 ^ 31) (hhi : hi < 2 ^ 31) (hcan : ∀ m : Nat, m ≤ 9999 → nu = nI m → f_X5_canBe (s, nm, ps, kd, nI b, nu, fa, fq) x2 (nI k) = some (if (decide (lo ≤ m) && decide (m ≤ hi)) = true then 1 else 0)) :
    (fb_X5_readSetting_66 t (fu + 1) u0 x2 x3 (nI k) = some (0, (s, nm, ps, kd, nI b, nu, fa, fq)) ∧ f_X12_takes (ra, al, tx, sv, re, nI n, nI b, so, va, wo, wr, ba, bd, to, rd, z) (nI lo) (nI hi) = some (0, (ra, al, tx, sv, re, nI n, nI b, so, va, wo, nI b, ba, bd, to, rd, z))) ∨
    ∃ (m e_ b2 : Nat) (ps2 kd2 nu2 fa2 fq2 ba2 re2 so2 va2 : Int32) (wo2 : Int64), m ≤ 9999 ∧ fb_X5_readSetting_66 t (fu + 1) u0 x2 x3 (nI k) = fb_X5_readSetting_66 t fu (s, upd nm k (nI m), nI e_, 2, nI b, nI m, fa2, fq2) x2 x3 (nI (k + 1)) ∧ (∀ s3 : V7, f_X5_nextToken (s3, upd nm k (nI m), nI e_, 2, nI b, nI m, fa2, fq2) t = some (s3, upd nm k (nI m), ps2, kd2, nI b2, nu2, fa2, fq2)) ∧ f_X12_takes (ra, al, tx, sv, re, nI n, nI b, so, va, wo, wr, ba, bd, to, rd, z) (nI lo) (nI hi) = some (1, (ra, al, tx, sv, re2, nI n, nI b2, so2, va2, wo2, wr, ba2, fa2, to, nI m, z)) ∧ b < b2 ∧ b2 ≤ n ∧ TK n g b2 ps2 kd2 nu2 re2 so2 va2 wo2 ∧ FB b2 fa2 fq2 ba2 fa2 ∧ (fa2 = 0 → fa = 0 ∧ lo ≤ m ∧ m ≤ hi) := by
  have hn := hB.1
  have hx := x_rs (fu := fu) (x2 := x2) hk h3 hu
  have hno : kd ≠ 2 → so ≠ 3 → (fb_X5_readSetting_66 t (fu + 1) u0 x2 x3 (nI k) = some (0, (s, nm, ps, kd, nI b, nu, fa, fq)) ∧ f_X12_takes (ra, al, tx, sv, re, nI n, nI b, so, va, wo, wr, ba, bd, to, rd, z) (nI lo) (nI hi) = some (0, (ra, al, tx, sv, re, nI n, nI b, so, va, wo, nI b, ba, bd, to, rd, z))) := by
    intro h1 h2
    refine ⟨by rw [hx, if_neg h1], ?_⟩
    unfold f_X12_takes f_X12_fails
    dsimp only
    rw [if_neg h2, bnd2_s]
    exact if_pos (Or.inl rfl)
  rcases hT with ⟨e1, e2, -⟩ | ⟨e_, c1, c2, c3, c4, ⟨e1, e2, -⟩ | ⟨e1, e2, m, hm, m1, m2⟩ | ⟨e1, e2⟩⟩ | ⟨e1, e2⟩
  · exact Or.inl (hno (by rw [e1]; decide) (by rw [e2]; decide))
  · exact Or.inl (hno (by rw [e1]; decide) (by rw [e2]; decide))
  · subst e1 e2 m1 m2 c3 c4
    have hc := hcan m hm rfl
    right
    by_cases hr : (decide (lo ≤ m) && decide (m ≤ hi)) = true
    · obtain ⟨b2, ps2, kd2, nu2, re2, so2, va2, wo2, a1, a2, a3, a4, a5⟩ := token_rel hB 2 (nI b) (nI m) fa fq (ra := ra) (al := al) (sv := sv) (bm := nI b) (so := 3) (va := nI m) (wo := wo) (z := (wr, ba, bd, to, nI m, z)) c2
      have hbd := hF.1
      subst hbd
      refine ⟨m, e_, b2, ps2, kd2, nu2, bd, fq, ba, re2, so2, va2, wo2, hm, ?_, fun s3 => a3 s3 _, ?_, by omega, a2, a5, hF.up (by omega), fun h => ⟨h, ?_⟩⟩
      · rw [hx, if_pos rfl, hc, bnd1_s, if_neg (by rw [if_pos hr]; decide)]
      · rw [takes_num hm hlo hhi, if_pos hr, a4, bnd1_s]
      · rw [Bool.and_eq_true, decide_eq_true_eq, decide_eq_true_eq] at hr
        exact hr
    · obtain ⟨fa2, fq2, ba2, d1, d2, d3, d4⟩ := note_rel hF (by omega) (Or.inl rfl) s nm (nI e_) 2 (nI m) (ra := ra) (al := al) (tx := tx) (sv := sv) (re := nI e_) (le := nI n) (bg := nI b) (so := 3) (va := nI m) (wo := wo) (wr := wr) (z := (to, nI m, z))
      obtain ⟨b2, ps2, kd2, nu2, re2, so2, va2, wo2, a1, a2, a3, a4, a5⟩ := token_rel hB 2 (nI b) (nI m) fa2 fq2 (ra := ra) (al := al) (sv := sv) (bm := nI b) (so := 3) (va := nI m) (wo := wo) (z := (wr, ba2, fa2, to, nI m, z)) c2
      refine ⟨m, e_, b2, ps2, kd2, nu2, fa2, fq2, ba2, re2, so2, va2, wo2, hm, ?_, fun s3 => a3 s3 _, ?_, by omega, a2, a5, d4.up (by omega), fun h => absurd h d3⟩
      · rw [hx, if_pos rfl, hc, bnd1_s, if_pos (by rw [if_neg hr]), d1, bnd1_s]
      · rw [takes_num hm hlo hhi, if_neg hr, d2, bnd1_s, a4, bnd1_s]
  · exact Or.inl (hno (by rw [e1]; decide) (by rw [e2]; decide))
  · exact Or.inl (hno (by rw [e1]; decide) (by rw [e2]; decide))
end NR
end mp_55_nr
section mp_56_ln
section LN
def loN (k : Nat) : Nat := (stL k).toNatClampNeg
def hiN (k : Nat) : Nat := (stM k).toNatClampNeg
theorem lohi : ∀ k, k < 9 → stL k = nI (loN k) ∧ stM k = nI (hiN k) ∧ loN k < 2 ^ 31 ∧ hiN k < 2 ^ 31 := by decide
/-- settings in their ranges -/
def SN (f : Nat → Int32) : Prop := ∀ k, k < 9 → ∃ m : Nat, f k = nI m ∧ loN k ≤ m ∧ m ≤ hiN k
theorem SN.sv {f : Nat → Int32} (h : SN f) : ∃ c lg W BL o : Nat, SV f c lg W BL o := by
  obtain ⟨c, c1, c2, c3⟩ := h 0 (by decide)
  obtain ⟨lg, l1, l2, l3⟩ := h 1 (by decide)
  obtain ⟨W, w1, w2, w3⟩ := h 2 (by decide)
  obtain ⟨BL, b1, b2, b3⟩ := h 4 (by decide)
  obtain ⟨o, o1, o2, o3⟩ := h 5 (by decide)
  exact ⟨c, lg, W, BL, o, c1, c2, c3, l1, l2, l3, w1, w2, w3, b1, b2, b3, o1, o2, o3⟩
/-- settings of the class, told of the reference -/
def TL (fa : Int32) (s : V7) (to : Nat → Int32) : Prop := (∀ k, k < 9 → to k = s.1 k) ∧ (∃ c : Nat, c ≤ 4 ∧ s.2.2.2.2 = nI c ∧ to 9 = nI c ∧ ∀ k, k < c → to (10 + 3 * k) = s.2.1 k ∧ to (11 + 3 * k) = s.2.2.1 k ∧ to (12 + 3 * k) = s.2.2.2.1 k ∧ (fa = 0 → isb (s.2.2.2.1 k))) ∧ (fa = 0 → SN s.1)
theorem TL.same {fa fa2 : Int32} {s : V7} {to : Nat → Int32} (h : TL fa s to) (h2 : fa2 = 0 → fa = 0) : TL fa2 s to := by
  obtain ⟨h3, ⟨c, c1, c2, c3, c4⟩, h5⟩ := h
  exact ⟨h3, ⟨c, c1, c2, c3, fun k hk => ⟨(c4 k hk).1, (c4 k hk).2.1, (c4 k hk).2.2.1, fun e => (c4 k hk).2.2.2 (h2 e)⟩⟩, fun e => h5 (h2 e)⟩
theorem TL.plain {fa fa2 : Int32} {s : V7} {to : Nat → Int32} {x m : Nat} (h : TL fa s to) (hx : x < 9) (h2 : fa2 = 0 → fa = 0 ∧ loN x ≤ m ∧ m ≤ hiN x) : TL fa2 (upd s.1 x (nI m), s.2) (upd to x (nI m)) := by
  obtain ⟨h3, ⟨c, c1, c2, c3, c4⟩, h5⟩ := h
  refine ⟨fun k hk => ?_, ⟨c, c1, c2, by rw [upd_n (by omega)]; exact c3, fun k hk => ⟨by rw [upd_n (by omega)]; exact (c4 k hk).1, by rw [upd_n (by omega)]; exact (c4 k hk).2.1, by rw [upd_n (by omega)]; exact (c4 k hk).2.2.1, fun e => (c4 k hk).2.2.2 (h2 e).1⟩⟩, fun e k hk => ?_⟩
  · show upd to x (nI m) k = upd s.1 x (nI m) k
    by_cases e : k = x
    · rw [e, upd_s, upd_s]
    · rw [upd_n e, upd_n e]; exact h3 k hk
  · show ∃ j : Nat, upd s.1 x (nI m) k = nI j ∧ loN k ≤ j ∧ j ≤ hiN k
    by_cases e1 : k = x
    · rw [e1, upd_s]; exact ⟨m, rfl, (h2 e).2⟩
    · rw [upd_n e1]; exact h5 (h2 e).1 k hk
theorem TL.stuck {fa fa2 : Int32} {s : V7} {to : Nat → Int32} {c m1 m2 m3 : Nat} (h : TL fa s to) (hc : c < 4) (hs : s.2.2.2.2 = nI c) (h2 : fa2 = 0 → fa = 0 ∧ m3 ≤ 1) : TL fa2 (s.1, upd s.2.1 c (nI m1), upd s.2.2.1 c (nI m2), upd s.2.2.2.1 c (nI m3), nI (c + 1)) (upd (upd (upd (upd to (10 + 3 * c) (nI m1)) (11 + 3 * c) (nI m2)) (12 + 3 * c) (nI m3)) 9 (nI (c + 1))) := by
  obtain ⟨h3, ⟨c0, c1, c2, c3, c4⟩, h5⟩ := h
  have e0 : c0 = c := (nI_eq (by omega) (by omega)).mp (c2.symm.trans hs)
  rw [e0] at c1 c3 c4
  refine ⟨fun k hk => ?_, ⟨c + 1, by omega, rfl, upd_s _ _ _, fun k hk => ?_⟩, fun e => h5 (h2 e).1⟩
  · rw [upd_n (by omega), upd_n (by omega), upd_n (by omega), upd_n (by omega)]
    exact h3 k hk
  · show upd (upd (upd (upd to (10 + 3 * c) (nI m1)) (11 + 3 * c) (nI m2)) (12 + 3 * c) (nI m3)) 9 (nI (c + 1)) (10 + 3 * k) = upd s.2.1 c (nI m1) k ∧ upd (upd (upd (upd to (10 + 3 * c) (nI m1)) (11 + 3 * c) (nI m2)) (12 + 3 * c) (nI m3)) 9 (nI (c + 1)) (11 + 3 * k) = upd s.2.2.1 c (nI m2) k ∧ upd (upd (upd (upd to (10 + 3 * c) (nI m1)) (11 + 3 * c) (nI m2)) (12 + 3 * c) (nI m3)) 9 (nI (c + 1)) (12 + 3 * k) = upd s.2.2.2.1 c (nI m3) k ∧ (fa2 = 0 → isb (upd s.2.2.2.1 c (nI m3) k))
    by_cases e : k = c
    · rw [e, upd_s, upd_s, upd_s]
      refine ⟨?_, ?_, ?_, fun e1 => isb_of (by have := (h2 e1).2; omega)⟩
      · rw [upd_n (by omega), upd_n (by omega), upd_n (by omega), upd_s]
      · rw [upd_n (by omega), upd_n (by omega), upd_s]
      · rw [upd_n (by omega), upd_s]
    · rw [upd_n (f := s.2.1) e, upd_n (f := s.2.2.1) e, upd_n (f := s.2.2.2.1) e]
      have h6 := c4 k (by omega)
      refine ⟨?_, ?_, ?_, fun e1 => h6.2.2.2 (h2 e1).1⟩
      · rw [upd_n (by omega), upd_n (by omega), upd_n (by omega), upd_n (by omega)]; exact h6.1
      · rw [upd_n (by omega), upd_n (by omega), upd_n (by omega), upd_n (by omega)]; exact h6.2.1
      · rw [upd_n (by omega), upd_n (by omega), upd_n (by omega), upd_n (by omega)]; exact h6.2.2.1
theorem chkbo0 {ρ : Type} (k : Option ρ) : chkbo (0 : Int32) k = k := if_pos (Or.inl rfl)
theorem chkbo1 {ρ : Type} (k : Option ρ) : chkbo (1 : Int32) k = k := if_pos (Or.inr rfl)
theorem in_dec {lo hi m : Nat} (h : lo ≤ m ∧ m ≤ hi) : (decide (lo ≤ m) && decide (m ≤ hi)) = true := by
  rw [Bool.and_eq_true, decide_eq_true_eq, decide_eq_true_eq]; exact h
theorem in_ndec {lo hi m : Nat} (h : ¬ (lo ≤ m ∧ m ≤ hi)) : ¬ (decide (lo ≤ m) && decide (m ≤ hi)) = true := by
  rw [Bool.and_eq_true, decide_eq_true_eq, decide_eq_true_eq]; exact h
theorem can_plain {u : V5} {m x : Nat} {p2 : Int32} (hx : x < 9) (hm : m ≤ 9999) (hu : u.2.2.2.2.2.1 = nI m) : f_X5_canBe u (nI x) p2 = some (if (decide (loN x ≤ m) && decide (m ≤ hiN x)) = true then 1 else 0) := by
  obtain ⟨h1, h2, h3, h4⟩ := lohi x hx
  unfold f_X5_canBe
  have h9 : ¬ (9 : Int32) ≤ nI x := nI_ge (b := 9) hx (by decide)
  rw [if_neg (nI_pos (by omega)), if_neg h9, if_neg h9, chk_nI hx (by decide), chk_nI hx (by decide), nI_clamp (by omega), hu, h1, h2]
  by_cases e1 : m < loN x
  · rw [if_pos (nI_lt e1 h3), if_neg (in_ndec (by omega))]
  · rw [if_neg (nI_nlt (by omega) (by omega))]
    by_cases e2 : hiN x < m
    · rw [if_pos (nI_lt e2 (by omega)), if_neg (in_ndec (by omega))]
    · rw [if_neg (nI_nlt (by omega) h4), if_pos (in_dec (by omega))]
theorem can_9 (u : V5) (p2 : Int32) : f_X5_canBe u 9 p2 = fc_X5_canBe_50 u p2 := by
  unfold f_X5_canBe
  rw [if_neg (show ¬ (9 : Int32) < 0 by decide), if_pos (show (9 : Int32) ≤ 9 by decide)]
theorem can_s0 {u : V5} {m : Nat} (hm : m ≤ 9999) : f_X5_canBe u 9 (nI 0) = some (if (decide (0 ≤ m) && decide (m ≤ 9999)) = true then 1 else 0) := by
  rw [can_9, if_pos (in_dec ⟨Nat.zero_le _, hm⟩)]
  unfold fc_X5_canBe_50
  rw [if_neg (show ¬ nI 0 = (1 : Int32) by decide), if_pos (show nI 0 = (0 : Int32) by decide)]
theorem can_s1 {u : V5} {m l : Nat} (hm : m ≤ 9999) (hl : l ≤ 9999) (hu : u.2.2.2.2.2.1 = nI m) (h0 : u.2.1 0 = nI l) : f_X5_canBe u 9 (nI 1) = some (if (decide (l ≤ m) && decide (m ≤ 9999)) = true then 1 else 0) := by
  rw [can_9]
  unfold fc_X5_canBe_50
  rw [if_pos (show nI 1 = (1 : Int32) by decide), chk_in (show vp_in (0 : Int32) 3 by unfold vp_in; decide), show ((0 : Int32)).toNatClampNeg = 0 from rfl, hu, h0]
  by_cases e1 : m < l
  · rw [if_pos (nI_lt e1 (by omega)), if_neg (in_ndec (by omega))]
  · rw [if_neg (nI_nlt (by omega) (by omega)), if_pos (in_dec (by omega))]
theorem can_s2 {u : V5} {m : Nat} (hm : m ≤ 9999) (hu : u.2.2.2.2.2.1 = nI m) : f_X5_canBe u 9 (nI 2) = some (if (decide (0 ≤ m) && decide (m ≤ 1)) = true then 1 else 0) := by
  rw [can_9]
  unfold fc_X5_canBe_50
  rw [if_neg (show ¬ nI 2 = (1 : Int32) by decide), if_neg (show ¬ nI 2 = (0 : Int32) by decide), hu]
  by_cases e1 : 1 < m
  · rw [if_pos (show (1 : Int32) < nI m from nI_lt (a := 1) e1 (by omega)), if_neg (in_ndec (by omega))]
  · rw [if_neg (show ¬ (1 : Int32) < nI m from nI_nlt (a := 1) (by omega) (by omega)), if_pos (in_dec (by omega))]
theorem put_p (s : V7) (nm : Nat → Int32) (r : Int32 × Int32 × Int32 × Int32 × Int32 × Int32) {x : Nat} (hx : x < 9) : f_X5_putNumbers (s, nm, r) (nI x) = some ((upd s.1 x (nm 0), s.2), nm, r) := by
  unfold f_X5_putNumbers f_X7_setValue
  dsimp only
  rw [if_neg (show ¬ nI x = (9 : Int32) from fun e => absurd ((nI_eq (b := 9) (by omega) (by decide)).mp e) (by omega)), chk_in (show vp_in (0 : Int32) 3 by unfold vp_in; decide), if_neg (nI_pos (by omega)), if_neg (show ¬ (9 : Int32) ≤ nI x from nI_ge (b := 9) hx (by decide)), chk_nI hx (by decide), bnd_e, bnd1_s, nI_clamp (by omega)]
  rfl
theorem put_s (s : V7) (nm : Nat → Int32) (r : Int32 × Int32 × Int32 × Int32 × Int32 × Int32) {c : Nat} (hc : c < 4) (hs : s.2.2.2.2 = nI c) : f_X5_putNumbers (s, nm, r) 9 = some ((s.1, upd s.2.1 c (nm 0), upd s.2.2.1 c (nm 1), upd s.2.2.2.1 c (nm 2), nI (c + 1)), nm, r) := by
  unfold f_X5_putNumbers f_X7_addStuck
  dsimp only
  rw [if_pos rfl, chk_in (show vp_in (0 : Int32) 3 by unfold vp_in; decide), chk_in (show vp_in (1 : Int32) 3 by unfold vp_in; decide), chk_in (show vp_in (2 : Int32) 3 by unfold vp_in; decide), hs, if_neg (nI_pos (by omega)), if_neg (show ¬ (4 : Int32) ≤ nI c from nI_ge (b := 4) hc (by decide)), chk_nI hc (by decide), bnd_e, chk_nI hc (by decide), bnd_e, chk_nI hc (by decide), bnd_e, bnd_e, bnd1_s, nI_clamp (by omega), nI_1]
  rfl
theorem put_s4 (s : V7) (nm : Nat → Int32) (r : Int32 × Int32 × Int32 × Int32 × Int32 × Int32) (hs : s.2.2.2.2 = nI 4) : f_X5_putNumbers (s, nm, r) 9 = some (s, nm, r) := by
  unfold f_X5_putNumbers f_X7_addStuck
  dsimp only
  rw [if_pos rfl, chk_in (show vp_in (0 : Int32) 3 by unfold vp_in; decide), chk_in (show vp_in (1 : Int32) 3 by unfold vp_in; decide), chk_in (show vp_in (2 : Int32) 3 by unfold vp_in; decide), hs, if_neg (nI_pos (by decide)), if_pos (show (4 : Int32) ≤ nI 4 by decide), bnd1_s]
theorem x_end {t : V9} {u u1 u2 : V5} {x2 x3 : Int32} {fu k : Nat} (h : x3 ≤ nI k) (hp : f_X5_putNumbers u x2 = some u1) (hT : f_X5_nextToken u1 t = some u2) : fb_X5_readSetting_66 t (fu + 1) u x2 x3 (nI k) = if u2.2.2.2.1 = 3 then some (1, u2) else some (0, u2) := by
  show fl_X5_readSetting_66 t (fb_X5_readSetting_66 t fu) u x2 x3 (nI k) = _
  unfold fl_X5_readSetting_66
  rw [if_pos h, hp, bnd1_s, hT, bnd1_s]
theorem tk_semi {n : Nat} {g : Nat → Nat} {b : Nat} {ps kd nu re so va : Int32} {wo : Int64} (h : TK n g b ps kd nu re so va wo) : (kd = 3 ∧ so = 4 ∧ ∃ e_ : Nat, b < e_ ∧ e_ ≤ n ∧ ps = nI e_ ∧ re = nI e_) ∨ (kd ≠ 3 ∧ so ≠ 4) := by
  rcases h with ⟨e1, e2, -⟩ | ⟨e_, c1, c2, c3, c4, ⟨e1, e2, -⟩ | ⟨e1, e2, -⟩ | ⟨e1, e2⟩⟩ | ⟨e1, e2⟩
  · exact Or.inr ⟨by rw [e1]; decide, by rw [e2]; decide⟩
  · exact Or.inr ⟨by rw [e1]; decide, by rw [e2]; decide⟩
  · exact Or.inr ⟨by rw [e1]; decide, by rw [e2]; decide⟩
  · exact Or.inl ⟨e1, e2, e_, c1, c2, c3, c4⟩
  · exact Or.inr ⟨by rw [e1]; decide, by rw [e2]; decide⟩
/-- a line, then its semicolon: the reference -/
def mst (o : Option (Int32 × V12)) : Option (Int32 × V12) := bnd2 o fun r_8 u_9 => if r_8 = 0 then some (r_8, u_9) else if u_9.2.2.2.2.2.2.2.1 = 4 then some (r_8, u_9) else f_X12_fails u_9
theorem mst_0 (v : V12) : mst (some (0, v)) = some (0, v) := by
  unfold mst
  rw [bnd2_s, if_pos rfl]
theorem mst_4 (v : V12) (h : v.2.2.2.2.2.2.2.1 = 4) : mst (some (1, v)) = some (1, v) := by
  unfold mst
  rw [bnd2_s, if_neg (by decide), if_pos h]
theorem mst_f (v : V12) (h : v.2.2.2.2.2.2.2.1 ≠ 4) : mst (some (1, v)) = f_X12_fails v := by
  unfold mst
  rw [bnd2_s, if_neg (by decide), if_neg h]
/-- what a line gives, both -/
def LR (n b : Nat) (tx : Nat → Int32) (ra : Int32) (al sv : Nat → Int32) (wr : Int32) (z : Int32 × Int32 × Int32 × Int32 × Int64 × Int64 × (Nat → Int32)) (X : Option (Int32 × V5)) (M : Option (Int32 × V12)) : Prop :=
  (∃ (u2 : V5) (v2 : V12), X = some (0, u2) ∧ M = some (0, v2) ∧ v2.1 = ra ∧ v2.2.1 = al ∧ v2.2.2.1 = tx ∧ v2.2.2.2.1 = sv ∧ v2.2.2.2.2.2.2.2.2.2.2.1 = u2.2.2.2.2.1) ∨
  ∃ (s2 : V7) (nm2 : Nat → Int32) (e_ b2 : Nat) (nu2 fa2 fq2 ba2 va2 : Int32) (wo2 : Int64) (to2 : Nat → Int32) (rd2 : Int32), X = some (1, (s2, nm2, nI e_, 3, nI b2, nu2, fa2, fq2)) ∧ M = some (1, (ra, al, tx, sv, nI e_, nI n, nI b2, 4, va2, wo2, wr, ba2, fa2, to2, rd2, z)) ∧ b < b2 ∧ b2 < e_ ∧ e_ ≤ n ∧ FB b2 fa2 fq2 ba2 fa2 ∧ TL fa2 s2 to2
theorem nI_nm1 {x : Nat} (hx : x < 2 ^ 31) : ¬ nI x = (-1 : Int32) := fun h => absurd (h ▸ nI_pos hx) (by decide)
theorem m_lineP {v : V12} {x : Nat} (hx : x < 9) (h2 : v.2.2.2.2.2.2.2.1 = 2) (h9 : ¬ v.2.2.2.2.2.2.2.2.2.1 = 495875089259) (hs : f_X12_settingOf v.2.2.2.2.2.2.2.2.2.1 = some (nI x)) : f_X12_line v = bnd1 (f_X12_token v) fun u_2 => bnd2 (f_X12_takes u_2 (nI (loN x)) (nI (hiN x))) fun r_5 u_6 => chkbo r_5 <| some (r_5, (u_6.1, u_6.2.1, u_6.2.2.1, u_6.2.2.2.1, u_6.2.2.2.2.1, u_6.2.2.2.2.2.1, u_6.2.2.2.2.2.2.1, u_6.2.2.2.2.2.2.2.1, u_6.2.2.2.2.2.2.2.2.1, u_6.2.2.2.2.2.2.2.2.2.1, u_6.2.2.2.2.2.2.2.2.2.2.1, u_6.2.2.2.2.2.2.2.2.2.2.2.1, u_6.2.2.2.2.2.2.2.2.2.2.2.2.1, upd u_6.2.2.2.2.2.2.2.2.2.2.2.2.2.1 x u_6.2.2.2.2.2.2.2.2.2.2.2.2.2.2.1, u_6.2.2.2.2.2.2.2.2.2.2.2.2.2.2)) := by
  obtain ⟨l1, l2, -, -⟩ := lohi x hx
  unfold f_X12_line fc_X12_line_16
  rw [if_pos h2, if_neg h9, hs, bnd1_s, if_neg (nI_nm1 (by omega))]
  cases f_X12_token v with
  | none => rfl
  | some u =>
    rw [bnd1_s, bnd1_s, (least_nI x hx).1, bnd1_s, (least_nI x hx).2, bnd1_s, l1, l2]
    cases f_X12_takes u (nI (loN x)) (nI (hiN x)) with
    | none => rfl
    | some p =>
      obtain ⟨r, u6⟩ := p
      rw [bnd2_s, bnd2_s, chk_nI (by omega) (by decide), bnd_e, nI_clamp (by omega)]
theorem line_p {t : V9} {n : Nat} {g : Nat → Nat} {tx : Nat → Int32} (hB : HB t n g tx) {b e_ x : Nat} {s : V7} {nm : Nat → Int32} {kd nu fa fq : Int32} {ra : Int32} {al sv : Nat → Int32} {va : Int32} {wo : Int64} {wr ba rd : Int32} {to : Nat → Int32} {z : Int32 × Int32 × Int32 × Int32 × Int64 × Int64 × (Nat → Int32)} (hx : x < 9) (hbe : b < e_) (hen : e_ ≤ n) (hF : FB b fa fq ba fa) (hL : TL fa s to) (h9 : ¬ wo = 495875089259) (hs : f_X12_settingOf wo = some (nI x)) : LR n b tx ra al sv wr z (fb_X5_readSetting_66 t FU (s, nm, nI e_, kd, nI b, nu, fa, fq) (nI x) 1 (nI 0)) (mst (f_X12_line (ra, al, tx, sv, nI e_, nI n, nI b, 2, va, wo, wr, ba, fa, to, rd, z))) := by
  obtain ⟨l1, l2, l3, l4⟩ := lohi x hx
  obtain ⟨b1, ps1, kd1, nu1, re1, so1, va1, wo1, a1, a2, a3, a4, a5⟩ := token_rel hB kd (nI b) nu fa fq (ra := ra) (al := al) (sv := sv) (bm := nI b) (so := 2) (va := va) (wo := wo) (z := (wr, ba, fa, to, rd, z)) hen
  have hM := m_lineP (v := (ra, al, tx, sv, nI e_, nI n, nI b, 2, va, wo, wr, ba, fa, to, rd, z)) hx rfl h9 hs
  rw [a4, bnd1_s] at hM
  rw [show FU = 8589934590 + 1 + 1 from rfl]
  rcases num_rel hB (k := 0) (x2 := nI x) (x3 := 1) (fu := 8589934590 + 1) (lo := loN x) (hi := hiN x) (ra := ra) (al := al) (sv := sv) (wr := wr) (to := to) (rd := rd) (z := z) a5 (hF.up (by omega)) a2 (by decide) (by decide) (a3 s nm) l3 l4 (fun m hm hnu => can_plain hx hm hnu) with ⟨c1, c2⟩ | ⟨m, e2, b2, ps2, kd2, nu2, fa2, fq2, ba2, re2, so2, va2, wo2, c0, c1, c2, c3, c4, c5, c6, c7, c8⟩
  · rw [c2, bnd2_s, chkbo0] at hM
    rw [c1, hM, mst_0]
    exact Or.inl ⟨_, _, rfl, rfl, rfl, rfl, rfl, rfl, rfl⟩
  · rw [c3, bnd2_s, chkbo1] at hM
    have hE := x_end (fu := 8589934590) (x3 := 1) (k := 0 + 1) (by decide) (put_p s (upd nm 0 (nI m)) (nI e2, 2, nI b1, nI m, fa2, fq2) hx) (c2 _)
    rw [c1, hE, hM]
    dsimp only
    rw [upd_s]
    rcases tk_semi c6 with ⟨d1, d2, e3, d3, d4, d5, d6⟩ | ⟨d1, d2⟩
    · rw [if_pos d1, mst_4 _ d2, d1, d2, d5, d6]
      exact Or.inr ⟨(upd s.1 x (nI m), s.2), _, e3, b2, nu2, fa2, fq2, ba2, va2, wo2, _, _, rfl, rfl, by omega, d3, d4, c7, hL.plain hx c8⟩
    · rw [if_neg d1, mst_f _ d2]
      exact Or.inl ⟨_, _, rfl, rfl, rfl, rfl, rfl, rfl, rfl⟩
end LN
end mp_56_ln
section mp_57_lr
section LRS
theorem line_s {t : V9} {n : Nat} {g : Nat → Nat} {tx : Nat → Int32} (hB : HB t n g tx) {b e_ c : Nat} {s : V7} {nm : Nat → Int32} {kd nu fa fq : Int32} {ra : Int32} {al sv : Nat → Int32} {so va : Int32} {wo : Int64} {wr ba rd : Int32} {to : Nat → Int32} {z : Int32 × Int32 × Int32 × Int32 × Int64 × Int64 × (Nat → Int32)} (hbe : b < e_) (hen : e_ ≤ n) (hF : FB (b + 1) fa fq ba fa) (hL : TL fa s to) (hc : s.2.2.2.2 = nI c) (hc4 : c ≤ 4) (h4 : c = 4 → fa ≠ 0) : LR n b tx ra al sv wr z (fb_X5_readSetting_66 t FU (s, nm, nI e_, kd, nI b, nu, fa, fq) 9 3 (nI 0)) (mst (bnd2 (fc_X12_stuckLine_20 (ra, al, tx, sv, nI e_, nI n, nI b, so, va, wo, wr, ba, fa, to, rd, z)) fun r_10 u_11 => chkbo r_10 <| some (r_10, u_11))) := by
  have h9 : to 9 = nI c := by
    obtain ⟨-, ⟨c0, -, q2, q3, -⟩, -⟩ := hL
    rw [q3, ← q2, hc]
  obtain ⟨b1, ps1, kd1, nu1, re1, so1, va1, wo1, a1, a2, a3, a4, a5⟩ := token_rel hB kd (nI b) nu fa fq (ra := ra) (al := al) (sv := sv) (bm := nI b) (so := so) (va := va) (wo := wo) (z := (wr, ba, fa, to, rd, z)) hen
  rw [show FU = 8589934588 + 1 + 1 + 1 + 1 from rfl]
  unfold fc_X12_stuckLine_20
  rw [a4, bnd1_s]
  rcases num_rel hB (k := 0) (x2 := 9) (x3 := 3) (fu := 8589934588 + 1 + 1 + 1) (lo := 0) (hi := 9999) (ra := ra) (al := al) (sv := sv) (wr := wr) (to := to) (rd := rd) (z := z) a5 (hF.up (by omega)) a2 (by decide) (by decide) (a3 s nm) (by decide) (by decide) (fun m hm _ => can_s0 hm) with ⟨c1, c2⟩ | ⟨m1, e1, b2, ps2, kd2, nu2, fa2, fq2, ba2, re2, so2, va2, wo2, c0, c1, c2, c3, c4, c5, c6, c7, c8⟩
  · rw [c1, show f_X12_takes _ (0 : Int32) (9999 : Int32) = _ from c2, bnd2_s, if_pos rfl, bnd2_s, chkbo0, mst_0]
    exact Or.inl ⟨_, _, rfl, rfl, rfl, rfl, rfl, rfl, rfl⟩
  · rw [c1, show f_X12_takes _ (0 : Int32) (9999 : Int32) = _ from c3, bnd2_s, if_neg (by decide)]
    dsimp only
    rcases num_rel hB (k := 0 + 1) (x2 := 9) (x3 := 3) (fu := 8589934588 + 1 + 1) (lo := m1) (hi := 9999) (ra := ra) (al := al) (sv := sv) (wr := wr) (to := to) (rd := nI m1) (z := z) c6 c7 c5 (by decide) (by decide) (c2 s) (by omega) (by decide) (fun m hm hnu => can_s1 hm c0 hnu (show upd nm 0 (nI m1) 0 = nI m1 from upd_s _ _ _)) with ⟨f1, f2⟩ | ⟨m2, e2, b3, ps3, kd3, nu3, fa3, fq3, ba3, re3, so3, va3, wo3, f0, f1, f2, f3, f4, f5, f6, f7, f8⟩
    · rw [f1, show f_X12_takes _ (nI m1) (9999 : Int32) = _ from f2, bnd2_s, if_pos rfl, bnd2_s, chkbo0, mst_0]
      exact Or.inl ⟨_, _, rfl, rfl, rfl, rfl, rfl, rfl, rfl⟩
    · rw [f1, show f_X12_takes _ (nI m1) (9999 : Int32) = _ from f3, bnd2_s, if_neg (by decide)]
      dsimp only
      rcases num_rel hB (k := 0 + 1 + 1) (x2 := 9) (x3 := 3) (fu := 8589934588 + 1) (lo := 0) (hi := 1) (ra := ra) (al := al) (sv := sv) (wr := wr) (to := to) (rd := nI m2) (z := z) f6 f7 f5 (by decide) (by decide) (f2 s) (by decide) (by decide) (fun m hm hnu => can_s2 hm hnu) with ⟨i1, i2⟩ | ⟨m3, e3, b4, ps4, kd4, nu4, fa4, fq4, ba4, re4, so4, va4, wo4, i0, i1, i2, i3, i4, i5, i6, i7, i8⟩
      · rw [i1, show f_X12_takes _ (0 : Int32) (1 : Int32) = _ from i2, bnd2_s, if_pos rfl, bnd2_s, chkbo0, mst_0]
        exact Or.inl ⟨_, _, rfl, rfl, rfl, rfl, rfl, rfl, rfl⟩
      · rw [i1, show f_X12_takes _ (0 : Int32) (1 : Int32) = _ from i3, bnd2_s, if_neg (by decide)]
        dsimp only
        have h9i : vp_in (9 : Int32) 22 := by unfold vp_in; decide
        rw [chk_in h9i, show ((9 : Int32)).toNatClampNeg = 9 from rfl]
        have hz : fa4 = 0 → fa = 0 ∧ m3 ≤ 1 := fun e => ⟨(c8 (f8 (i8 e).1).1).1, (i8 e).2.2⟩
        have n0 : upd (upd (upd nm 0 (nI m1)) (0 + 1) (nI m2)) (0 + 1 + 1) (nI m3) 0 = nI m1 := by
          rw [upd_n (by decide), upd_n (by decide), upd_s]
        have n1 : upd (upd (upd nm 0 (nI m1)) (0 + 1) (nI m2)) (0 + 1 + 1) (nI m3) 1 = nI m2 := by
          rw [upd_n (by decide)]
          exact upd_s _ _ _
        have n2 : upd (upd (upd nm 0 (nI m1)) (0 + 1) (nI m2)) (0 + 1 + 1) (nI m3) 2 = nI m3 := upd_s _ _ _
        by_cases hc' : c < 4
        · have hp := put_s s (upd (upd (upd nm 0 (nI m1)) (0 + 1) (nI m2)) (0 + 1 + 1) (nI m3)) (nI e3, 2, nI b3, nI m3, fa4, fq4) hc' hc
          rw [n0, n1, n2] at hp
          have hE := x_end (fu := 8589934588) (x3 := 3) (k := 0 + 1 + 1 + 1) (by decide) hp (i2 _)
          rw [hE, if_neg (show ¬ (4 : Int32) ≤ to 9 by rw [h9]; exact nI_ge (b := 4) hc' (by decide)), chk_in h9i, h9, show (10 : Int32) + (3 : Int32) * nI c = nI (10 + 3 * c) from by rw [show (3 : Int32) * nI c = nI (3 * c) from pk_mul 3 c]; exact nI_add 10 (3 * c), bnd_e, chk_nI (by omega) (by decide), bnd_e, show nI (10 + 3 * c) + (1 : Int32) = nI (11 + 3 * c) from (nI_1 _).trans (congrArg nI (by omega)), chk_nI (by omega) (by decide), bnd_e, show nI (10 + 3 * c) + (2 : Int32) = nI (12 + 3 * c) from (nI_add (10 + 3 * c) 2).trans (congrArg nI (by omega)), chk_nI (by omega) (by decide), bnd_e, chk_in h9i, chk_in h9i, bnd_e, nI_clamp (n := 10 + 3 * c) (by omega), nI_clamp (n := 11 + 3 * c) (by omega), nI_clamp (n := 12 + 3 * c) (by omega), upd_n (show 9 ≠ 12 + 3 * c by omega), upd_n (show 9 ≠ 11 + 3 * c by omega), upd_n (show 9 ≠ 10 + 3 * c by omega), h9, nI_1, bnd2_s, chkbo1]
          dsimp only
          rcases tk_semi i6 with ⟨d1, d2, e4, d3, d4, d5, d6⟩ | ⟨d1, d2⟩
          · rw [if_pos d1, mst_4 _ d2, d1, d2, d5, d6]
            exact Or.inr ⟨_, _, e4, b4, nu4, fa4, fq4, ba4, va4, wo4, _, _, rfl, rfl, by omega, d3, d4, i7, hL.stuck hc' hc hz⟩
          · rw [if_neg d1, mst_f _ d2]
            exact Or.inl ⟨_, _, rfl, rfl, rfl, rfl, rfl, rfl, rfl⟩
        · have hc5 : c = 4 := by omega
          have hE := x_end (fu := 8589934588) (x3 := 3) (k := 0 + 1 + 1 + 1) (by decide) (put_s4 s (upd (upd (upd nm 0 (nI m1)) (0 + 1) (nI m2)) (0 + 1 + 1) (nI m3)) (nI e3, 2, nI b3, nI m3, fa4, fq4) (by rw [hc, hc5])) (i2 _)
          rw [hE, if_pos (show (4 : Int32) ≤ to 9 by rw [h9, hc5]; decide), bnd2_s, chkbo1]
          dsimp only
          rcases tk_semi i6 with ⟨d1, d2, e4, d3, d4, d5, d6⟩ | ⟨d1, d2⟩
          · rw [if_pos d1, mst_4 _ d2, d1, d2, d5, d6]
            exact Or.inr ⟨_, _, e4, b4, nu4, fa4, fq4, ba4, va4, wo4, _, _, rfl, rfl, by omega, d3, d4, i7, hL.same (fun e => (hz e).1)⟩
          · rw [if_neg d1, mst_f _ d2]
            exact Or.inl ⟨_, _, rfl, rfl, rfl, rfl, rfl, rfl, rfl⟩
theorem line_rel {t : V9} {n : Nat} {g : Nat → Nat} {tx : Nat → Int32} (hB : HB t n g tx) {b : Nat} {s : V7} {nm : Nat → Int32} {ps kd nu fa fq : Int32} {ra : Int32} {al sv : Nat → Int32} {re so va : Int32} {wo : Int64} {wr ba rd : Int32} {to : Nat → Int32} {z : Int32 × Int32 × Int32 × Int32 × Int64 × Int64 × (Nat → Int32)} (hT : TK n g b ps kd nu re so va wo) (hF : FB b fa fq ba fa) (hL : TL fa s to) (h0 : kd ≠ 0) : LR n b tx ra al sv wr z (f_X5_readSetting (s, nm, ps, kd, nI b, nu, fa, fq) t) (mst (f_X12_line (ra, al, tx, sv, re, nI n, nI b, so, va, wo, wr, ba, fa, to, rd, z))) := by
  have hn := hB.1
  have hno : kd ≠ 1 → so ≠ 2 → LR n b tx ra al sv wr z (f_X5_readSetting (s, nm, ps, kd, nI b, nu, fa, fq) t) (mst (f_X12_line (ra, al, tx, sv, re, nI n, nI b, so, va, wo, wr, ba, fa, to, rd, z))) := by
    intro h1 h2
    have hx : f_X5_readSetting (s, nm, ps, kd, nI b, nu, fa, fq) t = some (0, (s, nm, ps, kd, nI b, nu, fa, fq)) := by
      unfold f_X5_readSetting fc_X5_readSetting_17
      dsimp only
      rw [if_neg h1, if_pos rfl]
    have hm : f_X12_line (ra, al, tx, sv, re, nI n, nI b, so, va, wo, wr, ba, fa, to, rd, z) = some (0, (ra, al, tx, sv, re, nI n, nI b, so, va, wo, nI b, ba, fa, to, rd, z)) := by
      unfold f_X12_line fc_X12_line_16 f_X12_fails
      dsimp only
      rw [if_neg h2, if_neg (show ¬ (0 : Int64) = 495875089259 by decide), show f_X12_settingOf 0 = some (-1) by decide, bnd1_s, if_pos rfl, bnd2_s, chkbo0]
    rw [hx, hm, mst_0]
    exact Or.inl ⟨_, _, rfl, rfl, rfl, rfl, rfl, rfl, rfl⟩
  rcases hT with ⟨e1, e2, -⟩ | ⟨e_, c1, c2, c3, c4, ⟨e1, e2, e3, e4⟩ | ⟨e1, e2, -⟩ | ⟨e1, e2⟩⟩ | ⟨e1, e2⟩
  · exact absurd e1 h0
  · subst e1 e2 c3 c4
    have hx : f_X5_settingOf (s, nm, nI e_, 1, nI b, nu, fa, fq) t = some (if sx (wN g b e_) = 10 then -1 else nI (sx (wN g b e_))) := x_sett hB c1 c2 (u := (s, nm, nI e_, 1, nI b, nu, fa, fq)) rfl rfl 10 FU 0 rfl (by show 10 < 8589934592; omega)
    obtain ⟨m1, m2⟩ := m_sett (wo := wo) (x := wN g b e_) (by rw [e4]; exact word_N hB c1 c2)
    have h10 : sx (wN g b e_) ≤ 10 := (fst_no (fun w => decide (wN g b e_ = Cn w)) (n := 10) (a := 0) (d := 10) rfl).2.1
    generalize sx (wN g b e_) = xw at hx m1 m2 h10
    by_cases h9 : xw < 9
    · rw [if_neg (by omega)] at hx
      rw [if_pos h9] at m1
      have hn9 : ¬ nI xw = (9 : Int32) := fun e => absurd ((nI_eq (b := 9) (by omega) (by decide)).mp e) (by omega)
      have hX : f_X5_readSetting (s, nm, nI e_, 1, nI b, nu, fa, fq) t = fb_X5_readSetting_66 t FU (s, nm, nI e_, 1, nI b, nu, fa, fq) (nI xw) 1 (nI 0) := by
        unfold f_X5_readSetting fc_X5_readSetting_17 fc_X5_readSetting_47
        dsimp only
        rw [if_pos rfl, hx, bnd1_s, if_neg (nI_nm1 (by omega)), if_neg hn9, if_neg hn9]
        rfl
      rw [hX]
      exact line_p hB h9 c1 c2 hF hL (fun e => absurd (m2.mp e) (by omega)) m1
    · by_cases h9' : xw = 9
      · rw [if_neg (by omega)] at hx
        subst h9'
        have hw := m2.mpr rfl
        subst hw
        have hL0 := hL
        obtain ⟨-, ⟨c, k1, k2, k3, -⟩, -⟩ := hL0
        have h9i : vp_in (9 : Int32) 22 := by unfold vp_in; decide
        by_cases hc : c = 4
        · obtain ⟨fa2, fq2, ba2, d1, d2, d3, d4⟩ := note_rel hF (by omega) (Or.inr rfl) s nm (nI e_) 1 nu (ra := ra) (al := al) (tx := tx) (sv := sv) (re := nI e_) (le := nI n) (bg := nI b) (so := 2) (va := va) (wo := 495875089259) (wr := wr) (z := (to, rd, z))
          have hX : f_X5_readSetting (s, nm, nI e_, 1, nI b, nu, fa, fq) t = fb_X5_readSetting_66 t FU (s, nm, nI e_, 1, nI b, nu, fa2, fq2) 9 3 (nI 0) := by
            unfold f_X5_readSetting fc_X5_readSetting_17 fc_X5_readSetting_47
            dsimp only
            rw [if_pos rfl, hx, bnd1_s, if_neg (nI_nm1 (by decide)), if_pos (show nI 9 = (9 : Int32) from rfl), if_neg (show ¬ s.2.2.2.2 < (4 : Int32) by rw [k2, hc]; decide), d1, bnd1_s, if_pos (show nI 9 = (9 : Int32) from rfl)]
            rfl
          have hM : f_X12_line (ra, al, tx, sv, nI e_, nI n, nI b, 2, va, 495875089259, wr, ba, fa, to, rd, z) = bnd2 (fc_X12_stuckLine_20 (ra, al, tx, sv, nI e_, nI n, nI b, 2, va, 495875089259, wr, ba2, fa2, to, rd, z)) fun r_10 u_11 => chkbo r_10 <| some (r_10, u_11) := by
            unfold f_X12_line fc_X12_line_16 f_X12_stuckLine
            dsimp only
            rw [if_pos rfl, if_pos rfl, chk_in h9i, show ((9 : Int32)).toNatClampNeg = 9 from rfl, if_pos (show to 9 = (4 : Int32) by rw [k3, hc]; rfl), d2, bnd1_s]
          rw [hX, hM]
          exact line_s hB c1 c2 d4 (hL.same (fun e => absurd e d3)) k2 k1 (fun _ => d3)
        · have hX : f_X5_readSetting (s, nm, nI e_, 1, nI b, nu, fa, fq) t = fb_X5_readSetting_66 t FU (s, nm, nI e_, 1, nI b, nu, fa, fq) 9 3 (nI 0) := by
            unfold f_X5_readSetting fc_X5_readSetting_17 fc_X5_readSetting_47
            dsimp only
            rw [if_pos rfl, hx, bnd1_s, if_neg (nI_nm1 (by decide)), if_pos (show nI 9 = (9 : Int32) from rfl), if_pos (show s.2.2.2.2 < (4 : Int32) by rw [k2]; exact nI_lt (b := 4) (by omega) (by decide)), if_pos (show nI 9 = (9 : Int32) from rfl)]
            rfl
          have hM : f_X12_line (ra, al, tx, sv, nI e_, nI n, nI b, 2, va, 495875089259, wr, ba, fa, to, rd, z) = bnd2 (fc_X12_stuckLine_20 (ra, al, tx, sv, nI e_, nI n, nI b, 2, va, 495875089259, wr, ba, fa, to, rd, z)) fun r_10 u_11 => chkbo r_10 <| some (r_10, u_11) := by
            unfold f_X12_line fc_X12_line_16 f_X12_stuckLine
            dsimp only
            rw [if_pos rfl, if_pos rfl, chk_in h9i, show ((9 : Int32)).toNatClampNeg = 9 from rfl, if_neg (show ¬ to 9 = (4 : Int32) from fun e => hc ((nI_eq (b := 4) (by omega) (by decide)).mp (k3.symm.trans e)))]
          rw [hX, hM]
          exact line_s hB c1 c2 (hF.up (by omega)) hL k2 k1 (fun e => absurd e hc)
      · have hx10 : xw = 10 := by omega
        rw [if_pos hx10] at hx
        rw [if_neg h9] at m1
        have hX : f_X5_readSetting (s, nm, nI e_, 1, nI b, nu, fa, fq) t = some (0, (s, nm, nI e_, 1, nI b, nu, fa, fq)) := by
          unfold f_X5_readSetting fc_X5_readSetting_17
          dsimp only
          rw [if_pos rfl, hx, bnd1_s, if_pos rfl]
        have hM : f_X12_line (ra, al, tx, sv, nI e_, nI n, nI b, 2, va, wo, wr, ba, fa, to, rd, z) = some (0, (ra, al, tx, sv, nI e_, nI n, nI b, 2, va, wo, nI b, ba, fa, to, rd, z)) := by
          unfold f_X12_line fc_X12_line_16 f_X12_fails
          dsimp only
          rw [if_pos rfl, if_neg (fun e => h9' (m2.mp e)), m1, bnd1_s, if_pos rfl, bnd2_s, chkbo0]
        rw [hX, hM, mst_0]
        exact Or.inl ⟨_, _, rfl, rfl, rfl, rfl, rfl, rfl, rfl⟩
  · exact hno (by rw [e1]; decide) (by rw [e2]; decide)
  · exact hno (by rw [e1]; decide) (by rw [e2]; decide)
  · exact hno (by rw [e1]; decide) (by rw [e2]; decide)
end LRS
end mp_57_lr
section mp_58_sr
section SR
theorem set_step (k36 : V12 → Int32 → Option (Int32 × V12)) (v : V12) (h : v.2.2.2.2.2.2.2.1 ≠ 0) : fl_X12_settings_36 k36 v 1 = bnd2 (mst (f_X12_line v)) fun r u => fc_X12_settings_69 k36 u r := by
  unfold fl_X12_settings_36 mst
  rw [if_neg (by decide), if_neg h]
  cases f_X12_line v with
  | none => rfl
  | some p =>
    obtain ⟨r, u⟩ := p
    rw [bnd2_s, bnd2_s]
    by_cases hr : r = 0
    · rw [if_pos hr, if_pos hr, bnd2_s]
    · rw [if_neg hr, if_neg hr]
      by_cases h4 : u.2.2.2.2.2.2.2.1 = 4
      · rw [if_pos h4, if_pos h4, bnd2_s]
      · rw [if_neg h4, if_neg h4]
theorem m_80f (v : V12) : fc_X12_settings_80 v 0 = some (-1, (v.1, upd (upd v.2.1 943 1) 944 v.2.2.2.2.2.2.2.2.2.2.1, v.2.2)) := by
  unfold fc_X12_settings_80 fc_X12_settings_99 fc_X12_settings_122
  rw [if_pos rfl, chk_in (show vp_in (943 : Int32) 4725 by unfold vp_in; decide), bnd_e, if_pos rfl, chk_in (show vp_in (944 : Int32) 4725 by unfold vp_in; decide), bnd_e, chk_in (show vp_in (943 : Int32) 4725 by unfold vp_in; decide), show ((943 : Int32)).toNatClampNeg = 943 from rfl, show ((944 : Int32)).toNatClampNeg = 944 from rfl]
  dsimp only
  rw [upd_n (show 943 ≠ 944 by decide), upd_s, if_neg (by decide)]
theorem m_80s (v : V12) : fc_X12_settings_80 v 1 = (if v.2.2.2.2.2.2.2.2.2.2.2.2.1 = 0 then (bnd1 (f_X12_taken (v.1, upd (upd v.2.1 943 v.2.2.2.2.2.2.2.2.2.2.2.2.1) 944 v.2.2.2.2.2.2.2.2.2.2.2.1, v.2.2)) fun u_7 => some (u_7.2.1 9, u_7)) else some (-1, (v.1, upd (upd v.2.1 943 v.2.2.2.2.2.2.2.2.2.2.2.2.1) 944 v.2.2.2.2.2.2.2.2.2.2.2.1, v.2.2))) := by
  unfold fc_X12_settings_80 fc_X12_settings_99 fc_X12_settings_122
  rw [if_neg (show ¬ (1 : Int32) = 0 by decide), chk_in (show vp_in (943 : Int32) 4725 by unfold vp_in; decide), bnd_e, if_neg (show ¬ (1 : Int32) = 0 by decide), chk_in (show vp_in (944 : Int32) 4725 by unfold vp_in; decide), bnd_e, chk_in (show vp_in (943 : Int32) 4725 by unfold vp_in; decide), show ((943 : Int32)).toNatClampNeg = 943 from rfl, show ((944 : Int32)).toNatClampNeg = 944 from rfl, show ((9 : Int32)).toNatClampNeg = 9 from rfl]
  dsimp only
  rw [upd_n (show 943 ≠ 944 by decide), upd_s]
  simp only [chk_in (show vp_in (9 : Int32) 4725 by unfold vp_in; decide)]
/-- what the reading gives, both -/
def RD (tx : Nat → Int32) (ra : Int32) (al sv : Nat → Int32) (X : Option (Int32 × V5)) (M : Option (Int32 × V12)) : Prop :=
  (∃ (u2 : V5) (v2 : V12), X = some (0, u2) ∧ M = some (-1, v2) ∧ v2.1 = ra ∧ v2.2.1 = upd (upd al 943 u2.2.2.2.2.2.2.1) 944 u2.2.2.2.2.2.2.2 ∧ v2.2.2.1 = tx ∧ v2.2.2.2.1 = sv) ∨
  (∃ (u2 : V5) (v2 : V12), X = some (1, u2) ∧ M = (bnd1 (f_X12_taken v2) fun u_7 => some (u_7.2.1 9, u_7)) ∧ v2.1 = ra ∧ v2.2.1 = upd (upd al 943 0) 944 (-1) ∧ v2.2.2.1 = tx ∧ v2.2.2.2.1 = sv ∧ TL 0 u2.1 v2.2.2.2.2.2.2.2.2.2.2.2.2.2.1)
theorem tk_0 {n : Nat} {g : Nat → Nat} {b : Nat} {ps kd nu re so va : Int32} {wo : Int64} (h : TK n g b ps kd nu re so va wo) : (kd = 0 ↔ so = 0) := by
  rcases h with ⟨e1, e2, -⟩ | ⟨e_, c1, c2, c3, c4, ⟨e1, e2, -⟩ | ⟨e1, e2, -⟩ | ⟨e1, e2⟩⟩ | ⟨e1, e2⟩ <;> rw [e1, e2] <;> decide
theorem read_loop {t : V9} {n : Nat} {g : Nat → Nat} {tx : Nat → Int32} (hB : HB t n g tx) {ra : Int32} {al sv : Nat → Int32} {z : Int32 × Int32 × Int32 × Int32 × Int64 × Int64 × (Nat → Int32)} : ∀ (D f1 f2 b j : Nat) (s : V7) (nm : Nat → Int32) (ps kd nu fa fq re so va : Int32) (wo : Int64) (wr ba rd : Int32) (to : Nat → Int32), n - b < D → D < f1 → D + 1 < f2 → 2 * j ≤ b → b ≤ n → TK n g b ps kd nu re so va wo → FB b fa fq ba fa → TL fa s to → RD tx ra al sv (fb_X5_read_29 t f1 (s, nm, ps, kd, nI b, nu, fa, fq) (nI j)) (fb_X12_settings_36 f2 (ra, al, tx, sv, re, nI n, nI b, so, va, wo, wr, ba, fa, to, rd, z) 1) := by
  have hn := hB.1
  intro D
  induction D with
  | zero => intro f1 f2 b j s nm ps kd nu fa fq re so va wo wr ba rd to h; exact absurd h (Nat.not_lt_zero _)
  | succ D ih =>
    intro f1 f2 b j s nm ps kd nu fa fq re so va wo wr ba rd to hd hf1 hf2 hj hbn hT hF hL
    obtain ⟨f1, rfl⟩ : ∃ m, f1 = m + 1 := ⟨f1 - 1, by omega⟩
    obtain ⟨f2, rfl⟩ : ∃ m, f2 = m + 1 := ⟨f2 - 1, by omega⟩
    show RD tx ra al sv (fl_X5_read_29 t (fb_X5_read_29 t f1) (s, nm, ps, kd, nI b, nu, fa, fq) (nI j)) (fl_X12_settings_36 (fb_X12_settings_36 f2) (ra, al, tx, sv, re, nI n, nI b, so, va, wo, wr, ba, fa, to, rd, z) 1)
    have h300 : ¬ (300 : Int32) ≤ nI j := nI_ge (b := 300) (by omega) (by decide)
    by_cases h0 : kd = 0
    · have hso := (tk_0 hT).mp h0
      have hX : fl_X5_read_29 t (fb_X5_read_29 t f1) (s, nm, ps, kd, nI b, nu, fa, fq) (nI j) = fc_X5_read_77 t (s, nm, ps, kd, nI b, nu, fa, fq) := by
        unfold fl_X5_read_29
        rw [if_neg h300, if_pos h0]
      have hM : fl_X12_settings_36 (fb_X12_settings_36 f2) (ra, al, tx, sv, re, nI n, nI b, so, va, wo, wr, ba, fa, to, rd, z) 1 = fc_X12_settings_80 (ra, al, tx, sv, re, nI n, nI b, so, va, wo, wr, ba, fa, to, rd, z) 1 := by
        unfold fl_X12_settings_36
        rw [if_neg (by decide), if_pos hso]
      rw [hX, hM, m_80s]
      unfold fc_X5_read_77
      dsimp only
      by_cases hfa : fa = 0
      · rw [if_pos hfa, if_pos hfa]
        have hba : ba = -1 := by
          rcases hF.2 with e | ⟨e, -⟩
          · exact e.2
          · rcases e with e | e <;> rw [hfa] at e <;> exact absurd e (by decide)
        rw [hfa] at hL
        rw [hfa, hba]
        exact Or.inr ⟨_, _, rfl, rfl, rfl, rfl, rfl, rfl, hL⟩
      · rw [if_neg hfa, if_neg hfa]
        have hba : ba = fq := by
          rcases hF.2 with e | ⟨-, e, -⟩
          · exact absurd e.1 hfa
          · exact e
        rw [hba]
        exact Or.inl ⟨_, _, rfl, rfl, rfl, rfl, rfl, rfl⟩
    · have hso : so ≠ 0 := fun e => h0 ((tk_0 hT).mpr e)
      rw [set_step (fb_X12_settings_36 f2) (ra, al, tx, sv, re, nI n, nI b, so, va, wo, wr, ba, fa, to, rd, z) hso]
      have hX : fl_X5_read_29 t (fb_X5_read_29 t f1) (s, nm, ps, kd, nI b, nu, fa, fq) (nI j) = bnd2 (f_X5_readSetting (s, nm, ps, kd, nI b, nu, fa, fq) t) fun r_3 u_4 => if r_3 = (0 : Int32) then (some (((0 : Int32), (u_4.1, u_4.2.1, u_4.2.2.1, u_4.2.2.2.1, u_4.2.2.2.2.1, u_4.2.2.2.2.2.1, (1 : Int32), u_4.2.2.2.2.1)))) else (bnd1 (f_X5_nextToken u_4 t) fun u_5 => bnd (nI j + (1 : Int32)) fun x_6 => fb_X5_read_29 t f1 u_5 x_6) := by
        unfold fl_X5_read_29
        rw [if_neg h300, if_neg h0]
      rw [hX]
      rcases line_rel hB (s := s) (nm := nm) (ra := ra) (al := al) (sv := sv) (wr := wr) (rd := rd) (z := z) hT hF hL h0 with ⟨u2, v2, l1, l2, l3, l4, l5, l6, l7⟩ | ⟨s2, nm2, e_, b2, nu2, fa2, fq2, ba2, va2, wo2, to2, rd2, l1, l2, l3, l4, l5, l6, l7⟩
      · rw [l1, bnd2_s, if_pos rfl, l2, bnd2_s]
        unfold fc_X12_settings_69
        rw [if_pos rfl]
        obtain ⟨f2, rfl⟩ : ∃ m, f2 = m + 1 := ⟨f2 - 1, by omega⟩
        have hM : fb_X12_settings_36 (f2 + 1) v2 0 = fc_X12_settings_80 v2 0 := by
          show fl_X12_settings_36 (fb_X12_settings_36 f2) v2 0 = _
          unfold fl_X12_settings_36
          rw [if_pos rfl]
        rw [hM, m_80f, l4, l7]
        exact Or.inl ⟨_, _, rfl, rfl, l3, rfl, l5, l6⟩
      · rw [l1, bnd2_s, if_neg (by decide), l2, bnd2_s]
        unfold fc_X12_settings_69
        rw [if_neg (by decide)]
        obtain ⟨b3, ps3, kd3, nu3, re3, so3, va3, wo3, a1, a2, a3, a4, a5⟩ := token_rel hB 3 (nI b2) nu2 fa2 fq2 (ra := ra) (al := al) (sv := sv) (bm := nI b2) (so := 4) (va := va2) (wo := wo2) (z := (wr, ba2, fa2, to2, rd2, z)) l5
        rw [a3 s2 nm2, bnd1_s, bnd_e, nI_1, a4, bnd1_s]
        exact ih f1 f2 b3 (j + 1) s2 nm2 ps3 kd3 nu3 fa2 fq2 re3 so3 va3 wo3 wr ba2 rd2 to2 (by omega) (by omega) (by omega) (by omega) a2 a5 (l6.up (by omega)) l7
theorem stF_in : ∀ k, k < 9 → stF k = nI (stF k).toNatClampNeg ∧ loN k ≤ (stF k).toNatClampNeg ∧ (stF k).toNatClampNeg ≤ hiN k := by decide
theorem RT.hb {t : V9} {F tx : Nat → Int32} (h : RT t F tx) : ∃ (n : Nat) (g : Nat → Nat), HB t n g tx ∧ F 942 = nI n := by
  obtain ⟨n, h1, h2, h3, h4, h5, h6⟩ := h
  refine ⟨n, fun k => (t.1 k).toNatClampNeg, ⟨h1, h2, fun k hk => ?_⟩, h3⟩
  obtain ⟨b, b1, b2, b3, b4⟩ := h6 k hk
  show 0 < (t.1 k).toNatClampNeg ∧ (t.1 k).toNatClampNeg < 256 ∧ t.1 k = nI (t.1 k).toNatClampNeg ∧ tx k &&& 255 = nI (t.1 k).toNatClampNeg
  rw [b3, nI_clamp (by omega)]
  exact ⟨b1, b2, rfl, b4⟩
theorem x_first (s : V7) : ∃ s2 : V7, f_X7_setFirst s = some s2 ∧ (∀ k, k < 9 → s2.1 k = stF k) ∧ s2.2.2.2.2 = 0 := by
  refine ⟨(va_cpy stF s.1 0 0 9, s.2.1, s.2.2.1, s.2.2.2.1, 0), ?_, fun k h => cpk _ _ h, rfl⟩
  unfold f_X7_setFirst chkcp
  rw [bnd_e, if_neg (by decide), bnd_e]
  rfl
/-- the text's reading, both -/
theorem read_rel {t : V9} (u0 : V5) (v : V12) (hRT : RT t v.2.1 v.2.2.1) : RD v.2.2.1 0 (upd v.2.1 942 0) v.2.2.2.1 (f_X5_read u0 t) (f_X12_settings v) := by
  obtain ⟨n, g, hB, h942⟩ := hRT.hb
  obtain ⟨s2, s1, s3, s4⟩ := x_first u0.1
  obtain ⟨ra, al, tx, sv, re, le, bg, so, va, wo, wr, ba, bd, to, rd, z⟩ := v
  dsimp only at h942 hB
  obtain ⟨to2, t1, t2, t3⟩ := m_first (ra := 0) (al := upd al 942 0) (tx := tx) (sv := sv) (le := nI n) (bg := bg) (so := so) (va := va) (wo := wo) (wr := wr) (rz := (rd, z)) 22 FU 0 re ba bd to (by omega) (by show 22 < 8589934592; omega) (fun j hj => absurd hj (by omega))
  obtain ⟨b3, ps3, kd3, nu3, re3, so3, va3, wo3, a1, a2, a3, a4, a5⟩ := token_rel hB u0.2.2.2.1 u0.2.2.2.2.1 u0.2.2.2.2.2.1 0 (-1) (ra := 0) (al := upd al 942 0) (sv := sv) (bm := bg) (so := so) (va := va) (wo := wo) (z := (wr, -1, 0, to2, rd, z)) (Nat.zero_le n)
  have hX : f_X5_read u0 t = fb_X5_read_29 t FU (s2, u0.2.1, ps3, kd3, nI b3, nu3, 0, -1) (nI 0) := by
    unfold f_X5_read
    rw [s1, bnd1_s, show f_X5_nextToken (s2, u0.2.1, (0 : Int32), u0.2.2.2.1, u0.2.2.2.2.1, u0.2.2.2.2.2.1, 0, -1) t = _ from a3 s2 u0.2.1, bnd1_s]
    rfl
  have hM : f_X12_settings (ra, al, tx, sv, re, le, bg, so, va, wo, wr, ba, bd, to, rd, z) = fb_X12_settings_36 FU (0, upd al 942 0, tx, sv, re3, nI n, nI b3, so3, va3, wo3, wr, -1, 0, to2, rd, z) 1 := by
    unfold f_X12_settings f_X12_atFirst
    dsimp only
    rw [chk_in (show vp_in (942 : Int32) 4725 by unfold vp_in; decide), bnd_e, chk_in (show vp_in (942 : Int32) 4725 by unfold vp_in; decide), bnd_e, show ((942 : Int32)).toNatClampNeg = 942 from rfl, h942, show fb_X12_atFirst_2 FU (0, upd al 942 0, tx, sv, re, nI n, bg, so, va, wo, wr, ba, bd, to, rd, z) (0 : Int32) = _ from t1, bnd1_s, show f_X12_token (0, upd al 942 0, tx, sv, (0 : Int32), nI n, bg, so, va, wo, wr, -1, 0, to2, rd, z) = _ from a4, bnd1_s]
  rw [hX, hM]
  have hn := hB.1
  refine read_loop hB (n + 1) FU FU b3 0 s2 u0.2.1 ps3 kd3 nu3 0 (-1) re3 so3 va3 wo3 wr (-1) rd to2 (by omega) (by show n + 1 < 8589934592; omega) (by show n + 1 + 1 < 8589934592; omega) (by omega) a2 a5 ⟨rfl, Or.inl ⟨rfl, rfl⟩⟩ ⟨fun k hk => by rw [t2 k hk, s3 k hk], ⟨0, by omega, s4, t3 9 (by omega) (by omega), fun k hk => absurd hk (by omega)⟩, fun _ k hk => ⟨(stF k).toNatClampNeg, by rw [s3 k hk]; exact (stF_in k hk).1, (stF_in k hk).2⟩⟩
end SR
end mp_58_sr
section mp_59_se
section SE
theorem settings_rel {B : Nat} (v0 : V11) (v : V12) (hR : R B v0.1 v.2.1) (hT : RT v0.1.2.2.2.2.2.2.2.1 v.2.1 v.2.2.1) : ∃ (r : Int32) (w2 : V10) (u2 : V5) (v2 : V12), f_X11_settings v0 = some (r, (w2, v0.2.1, v0.2.2.1, u2, v0.2.2.2.2)) ∧ f_X12_settings v = some (r, v2) ∧ R B w2 v2.2.1 ∧ RT w2.2.2.2.2.2.2.2.1 v2.2.1 v2.2.2.1 ∧ v2.1 = 0 ∧ (∀ j, 945 ≤ j → v2.2.1 j = v.2.1 j) ∧ v2.2.2.1 = v.2.2.1 ∧ v2.2.2.2.1 = v.2.2.2.1 := by
  unfold f_X11_settings
  rcases read_rel v0.2.2.2.1 v hT with ⟨u2, v2, l1, l2, l3, l4, l5, l6⟩ | ⟨u2, v2, l1, l2, l3, l4, l5, l6, l7⟩
  · rw [l1, bnd2_s, if_pos rfl, l2]
    refine ⟨-1, (v0.1.1, v0.1.2.1, v0.1.2.2.1, v0.1.2.2.2.1, v0.1.2.2.2.2.1, v0.1.2.2.2.2.2.1, v0.1.2.2.2.2.2.2.1, (v0.1.2.2.2.2.2.2.2.1.1, 0, u2.2.2.2.2.2.2.1, u2.2.2.2.2.2.2.2), v0.1.2.2.2.2.2.2.2.2), u2, v2, ?_, rfl, ?_, ?_, l3, fun j hj => ?_, l5, l6⟩
    · unfold f_X9_refuse
      rw [bnd1_s]
    · have hR2 : R B v0.1 v2.2.1 := hR.frame (fun j hj => by rw [l4, upd_n (by omega), upd_n (by omega), upd_n (by omega)])
      exact hR2
    · refine ⟨0, by omega, rfl, ?_, ?_, ?_, fun k hk => absurd hk (by omega)⟩
      · rw [l4, upd_n (by omega), upd_n (by omega), upd_s]; rfl
      · rw [l4, upd_n (by omega), upd_s]
      · rw [l4, upd_s]
    · rw [l4, upd_n (by omega), upd_n (by omega), upd_n (by omega)]
  · obtain ⟨s3, p1, p2, p3, p4⟩ := cp7 v0.1.1 u2.1
    obtain ⟨F2, q1, q2, q3, q4, q5⟩ := m_taken2 v2
    obtain ⟨t1, ⟨c, c1, c2, c3, c4⟩, t2⟩ := l7
    have hSN : SN s3.1 := fun k hk => by
      rw [p2 k hk]
      exact t2 rfl k hk
    obtain ⟨cc, lg, W, BL, o, hSV⟩ := hSN.sv
    have hRS : RS s3 F2 := by
      refine ⟨fun k hk => by rw [q2 k (by omega), p2 k hk]; exact t1 k hk, c, c1, by rw [p4]; exact c2, by rw [q2 9 (by omega)]; exact c3, fun k hk => ?_⟩
      obtain ⟨g1, g2, g3⟩ := p3 k (by omega)
      obtain ⟨k1, k2, k3, k4⟩ := c4 k hk
      rw [q2 _ (by omega), q2 _ (by omega), q2 _ (by omega), g1, g2, g3]
      exact ⟨k1, k2, k3, k4 rfl⟩
    obtain ⟨w2, b1, b2, b3, b4⟩ := begin_rel (B := B) ((s3, v0.1.2) : V10) hSV hRS q3 q4
    rw [l1, bnd2_s, if_neg (by decide), p1, bnd1_s, l2]
    refine ⟨nI c, w2, u2, (v2.1, F2, v2.2.2), ?_, ?_, b2, ?_, l3, fun j hj => ?_, l5, l6⟩
    · rw [b1, bnd1_s, b3]
      show some (s3.2.2.2.2, _) = _
      rw [p4, c2]
    · rw [q1, bnd1_s]
      show some (F2 9, _) = _
      rw [q2 9 (by omega), c3]
    · rw [b4]
      refine ⟨0, by omega, rfl, ?_, ?_, ?_, fun k hk => absurd hk (by omega)⟩
      · show F2 942 = _
        rw [q5 942 (by omega), l4, upd_n (by omega), upd_n (by omega), upd_s]; rfl
      · show F2 943 = _
        rw [q5 943 (by omega), l4, upd_n (by omega), upd_s]
      · show F2 944 = _
        rw [q5 944 (by omega), l4, upd_s]
    · show F2 j = _
      rw [q5 j (by omega), l4, upd_n (by omega), upd_n (by omega), upd_n (by omega)]
/-- the first state of both -/
theorem init_rel (B : Nat) : ∃ (w : V10) (v : V12), f_X10_init = some w ∧ f_X12_init = some v ∧ R B w v.2.1 ∧ RT w.2.2.2.2.2.2.2.1 v.2.1 v.2.2.1 ∧ v.1 = 0 ∧ v.2.2.2.1 = fun _ => 0 := by
  obtain ⟨to2, t1, t2, t3⟩ := m_first (ra := 0) (al := upd (fun _ => 0) 944 (-1)) (tx := fun _ => 0) (sv := fun _ => 0) (le := 0) (bg := 0) (so := 0) (va := 0) (wo := 0) (wr := 0) (rz := (0, 0, 0, 0, 0, 0, 0, fun _ => 0)) 22 FU 0 0 0 0 (fun _ => 0) (by omega) (by show 22 < 8589934592; omega) (fun j hj => absurd hj (by omega))
  obtain ⟨F2, q1, q2, q3, q4, q5⟩ := m_taken2 (0, upd (fun _ => 0) 944 (-1), fun _ => 0, fun _ => 0, 0, 0, 0, 0, 0, 0, 0, -1, 0, to2, 0, 0, 0, 0, 0, 0, 0, fun _ => 0)
  dsimp only at q1 q2 q3 q4 q5
  have hSN : SN stF := fun k hk => ⟨(stF k).toNatClampNeg, stF_in k hk⟩
  obtain ⟨cc, lg, W, BL, o, hSV⟩ := hSN.sv
  have hRS : RS (stF, (fun _ => 0), (fun _ => 0), (fun _ => 0), (0 : Int32)) F2 := ⟨fun k hk => by rw [q2 k (by omega)]; exact t2 k hk, 0, by omega, rfl, by rw [q2 9 (by omega)]; exact t3 9 (by omega) (by omega), fun k hk => absurd hk (by omega)⟩
  obtain ⟨w2, b1, b2, b3, b4⟩ := begin_rel (B := B) ((((stF, (fun _ => 0), (fun _ => 0), (fun _ => 0), (0 : Int32)), ((fun _ => 0), (0 : Int32), (0 : Int32), (0 : Int32), (0 : Int32)), ((0 : Int32), (0 : Int32), (0 : Int32)), ((0 : Int32), (0 : Int32), (0 : Int32), (0 : Int32), (0 : Int32), (0 : Int32)), (((fun _ => 0), (0 : Int32), (0 : Int32)), (0 : Int32), (0 : Int32), (0 : Int32), (0 : Int32), (0 : Int32), (0 : Int32)), ((fun _ => 0), (0 : Int32), (0 : Int32)), ((fun _ => 0), (fun _ => 0), (0 : Int32)), ((fun _ => 0), (0 : Int32), (0 : Int32), (-1 : Int32)), (0 : Int32), (0 : Int32), (0 : Int32), (0 : Int32), (0 : Int32), (0 : Int32))) : V10) hSV hRS q3 q4
  refine ⟨w2, (0, F2, fun _ => 0, fun _ => 0, 0, 0, 0, 0, 0, 0, 0, -1, 0, to2, 0, 0, 0, 0, 0, 0, 0, fun _ => 0), ?_, ?_, b2, ?_, rfl, rfl⟩
  · unfold f_X10_init f_X7_init f_X2_init f_X8_init f_X1_init f_X3_init f_X4_init f_X6_init f_X9_init
    rw [bnd1_s, bnd1_s, bnd1_s, bnd1_s, bnd1_s, bnd1_s, bnd1_s, bnd1_s, bnd1_s, b1, bnd1_s]
  · unfold f_X12_init f_X12_atFirst
    rw [chk_in (show vp_in (944 : Int32) 4725 by unfold vp_in; decide), show ((944 : Int32)).toNatClampNeg = 944 from rfl, show fb_X12_atFirst_2 FU (0, upd (fun _ => 0) 944 (-1), fun _ => 0, fun _ => 0, 0, 0, 0, 0, 0, 0, 0, 0, 0, fun _ => 0, 0, 0, 0, 0, 0, 0, 0, fun _ => 0) (0 : Int32) = _ from t1, bnd1_s, q1, bnd1_s]
  · rw [b4]
    refine ⟨0, by omega, rfl, ?_, ?_, ?_, fun k hk => absurd hk (by omega)⟩
    · show F2 942 = _
      rw [q5 942 (by omega), upd_n (by omega)]; rfl
    · show F2 943 = _
      rw [q5 943 (by omega), upd_n (by omega)]
    · show F2 944 = _
      rw [q5 944 (by omega), upd_s]
end SE
end mp_59_se
section mp_60_qa
section QA
/-- the reference keeps its cells, its text and its images -/
def SM (v v2 : V12) : Prop := v2.2.1 = v.2.1 ∧ v2.2.2.1 = v.2.2.1 ∧ v2.2.2.2.1 = v.2.2.2.1
theorem q_fault {v0 : V11} {v : V12} (hT : RT v0.1.2.2.2.2.2.2.2.1 v.2.1 v.2.2.1) (p : Int32) : ∃ r : Int32, f_X11_fault v0 p = some r ∧ f_X12_fault v p = some (r, (0, v.2)) := by
  obtain ⟨n, h1, h2, h3, h4, h5, h6⟩ := hT
  unfold f_X11_fault f_X12_fault
  by_cases hp : p = 0
  · refine ⟨_, if_pos hp, ?_⟩
    rw [if_pos hp, chk_in (show vp_in (943 : Int32) 4725 by unfold vp_in; decide), show ((943 : Int32)).toNatClampNeg = 943 from rfl, h4]
  · refine ⟨_, if_neg hp, ?_⟩
    rw [if_neg hp, chk_in (show vp_in (944 : Int32) 4725 by unfold vp_in; decide), show ((944 : Int32)).toNatClampNeg = 944 from rfl, h5]
theorem m1_lt {j : Nat} (hj : j < 2 ^ 31) : nI 0 - 1 < nI j := by
  rw [Int32.lt_iff_toInt_lt, nI_toInt hj, show (nI 0 - 1).toInt = -1 from by decide]
  omega
/-- below n or not -/
theorem in0 (p : Int32) {n : Nat} (hn : n < 2 ^ 31) : (∃ k : Nat, k < n ∧ p = nI k ∧ f_X12_in p 0 (nI n - 1) = some 1) ∨ ((p < 0 ∨ ∃ k : Nat, n ≤ k ∧ k < 2 ^ 31 ∧ p = nI k) ∧ f_X12_in p 0 (nI n - 1) = some 0) := by
  unfold f_X12_in
  by_cases h0 : p < 0
  · exact Or.inr ⟨Or.inl h0, if_pos h0⟩
  · rw [if_neg h0]
    obtain ⟨j, hj, e⟩ := nI_of h0
    rw [e]
    by_cases h : j < n
    · refine Or.inl ⟨j, h, rfl, ?_⟩
      rw [show nI n - 1 = nI (n - 1) from pk_sub (b := 1) (by omega), if_neg (nI_nlt (by omega) (by omega))]
    · refine Or.inr ⟨Or.inr ⟨j, by omega, hj, rfl⟩, ?_⟩
      by_cases h1 : n = 0
      · rw [h1, if_pos (m1_lt hj)]
      · rw [show nI n - 1 = nI (n - 1) from pk_sub (b := 1) (by omega), if_pos (nI_lt (by omega) hj)]
theorem q_bit {a o mx : Nat} {q : V4} {F : Nat → Int32} (hQ : RQ a o mx q F) (hm : mx ≤ 512) (p : Int32) : ∃ r : Int32, f_X4_bitAt q p = some r ∧ ((∃ k : Nat, k < mx ∧ p = nI k ∧ r = F (o + k) ∧ f_X12_in p 0 (F a - 1) = some 1) ∨ (r = -1 ∧ f_X12_in p 0 (F a - 1) = some 0)) := by
  obtain ⟨n, h, h1, h2, h3, h4, h5, h6⟩ := hQ
  unfold f_X4_bitAt
  rw [h3, h4, h5]
  rcases in0 p (n := n) (by omega) with ⟨k, k1, k2, k3⟩ | ⟨k1, k2⟩
  · refine ⟨F (o + k), ?_, Or.inl ⟨k, by omega, k2, rfl, k3⟩⟩
    rw [k2, if_neg (nI_pos (by omega)), if_pos (nI_lt k1 (by omega)), nI_add, and511 (by omega), chk_nI (Nat.mod_lt _ (by decide)) (by decide), nI_clamp (by omega), (h6 k k1).1]
  · refine ⟨-1, ?_, Or.inr ⟨rfl, k2⟩⟩
    rcases k1 with k1 | ⟨k, k3, k4, k5⟩
    · rw [if_pos k1]
    · rw [k5, if_neg (nI_pos k4), if_neg (nI_nlt k3 k4)]
theorem q_history {v0 : V11} {v : V12} (hQ : RQ 300 301 400 v0.1.2.2.2.2.2.1 v.2.1) (p : Int32) : ∃ r : Int32, f_X11_history v0 p = some r ∧ f_X12_history v p = some (r, (0, v.2)) := by
  obtain ⟨r, r1, r2⟩ := q_bit hQ (by decide) p
  refine ⟨r, by unfold f_X11_history; rw [r1, bnd1_s], ?_⟩
  unfold f_X12_history
  rw [chk_in (show vp_in (300 : Int32) 4725 by unfold vp_in; decide), show ((300 : Int32)).toNatClampNeg = 300 from rfl]
  rcases r2 with ⟨k, k1, k2, k3, k4⟩ | ⟨k1, k2⟩
  · rw [k4, bnd1_s, if_neg (by decide), k2, show (301 : Int32) + nI k = nI (301 + k) from nI_add 301 k, chk_nI (by omega) (by decide), nI_clamp (by omega), k3]
  · rw [k2, bnd1_s, if_pos rfl, k1]
theorem q_pool {v0 : V11} {v : V12} (hQ : RQ 43 44 256 v0.1.2.2.2.2.1.1 v.2.1) (p : Int32) : ∃ r : Int32, f_X11_pool v0 p = some r ∧ f_X12_pool v p = some (r, (0, v.2)) := by
  obtain ⟨r, r1, r2⟩ := q_bit hQ (by decide) p
  refine ⟨r, by unfold f_X11_pool; rw [r1, bnd1_s], ?_⟩
  unfold f_X12_pool
  rw [chk_in (show vp_in (43 : Int32) 4725 by unfold vp_in; decide), show ((43 : Int32)).toNatClampNeg = 43 from rfl]
  rcases r2 with ⟨k, k1, k2, k3, k4⟩ | ⟨k1, k2⟩
  · rw [k4, bnd1_s, if_neg (by decide), k2, show (44 : Int32) + nI k = nI (44 + k) from nI_add 44 k, chk_nI (by omega) (by decide), nI_clamp (by omega), k3]
  · rw [k2, bnd1_s, if_pos rfl, k1]
theorem m_rowAt {v : V12} {i k : Nat} (hi : i < 15) (hk : k < 16) : f_X12_rowAt v (nI i) (nI k) = some (v.2.1 (702 + 16 * i + k)) := by
  unfold f_X12_rowAt
  rw [show (16 : Int32) * nI i = nI (16 * i) from pk_mul 16 i, show (702 : Int32) + nI (16 * i) = nI (702 + 16 * i) from nI_add 702 _, nI_add, chk_nI (by omega) (by decide), nI_clamp (by omega)]
theorem ushr_nI : ∀ k, k < 15 → ∀ S, S < 2 ^ 31 → (jushr (nI S) (nI k)) &&& (1 : Int32) = nI (S / 2 ^ k % 2) := by
  intro k hk S hS
  have e : jushr (nI S) (nI k) = nI (S / 2 ^ k) := pk_ushrN (by omega) (nI k) k (by
    have : ∀ k, k < 32 → (((nI k).toUInt32 &&& Int32.toUInt32 31).toBitVec % 32).toNat = k := by decide +kernel
    exact this k (by omega))
  have h2 : S / 2 ^ k ≤ S := Nat.div_le_self _ _
  rw [e]
  exact pk_andN (by omega) 1 (by decide)
theorem q_row {v0 : V11} {v : V12} (hR : RR v0.1.2.2.2.2.2.2.1 v.2.1) (p1 p2 p3 : Int32) : ∃ r : Int32, f_X11_row v0 p1 p2 p3 = some r ∧ f_X12_row v p1 p2 p3 = some (r, (0, v.2)) := by
  obtain ⟨n, h1, h2, h3, h4⟩ := hR
  unfold f_X11_row f_X12_row f_X6_sampleOf f_X6_lengthOf f_X6_has
  rw [chk_in (show vp_in (701 : Int32) 4725 by unfold vp_in; decide), show ((701 : Int32)).toNatClampNeg = 701 from rfl, h2, h3]
  rcases in0 p1 (n := n) (by omega) with ⟨i, i1, i2, i3⟩ | ⟨i1, i2⟩
  · obtain ⟨len, S, l1, l2, l3, l4, l5, l6⟩ := h4 i i1
    have hpw : 2 ^ len ≤ 2 ^ 15 := Nat.pow_le_pow_right (by decide) l1
    rw [i3, bnd1_s, if_neg (show ¬ (1 : Int32) = 0 by decide), i2, if_neg (nI_pos (by omega)), if_neg (nI_ge i1 (by omega)), if_neg (show ¬ (15 : Int32) ≤ nI i from nI_ge (b := 15) (by omega) (by decide)), bnd1_s, if_neg (show ¬ (1 : Int32) = 0 by decide), bnd1_s, if_neg (show ¬ (1 : Int32) = 0 by decide), chk_nI (by omega) (by decide), chk_nI (by omega) (by decide), chk_nI (by omega) (by decide), nI_clamp (by omega), l3, l5, show f_X12_rowAt ((0 : Int32), v.2) (nI i) (0 : Int32) = some (v.2.1 (702 + 16 * i + 0)) from m_rowAt (by omega) (by decide), bnd1_s, bnd1_s, Nat.add_zero, l4, bnd1_s]
    by_cases hp : p3 = 0
    · rw [if_pos hp, if_pos hp]
      rcases in0 p2 (n := len) (by omega) with ⟨k, k1, k2, k3⟩ | ⟨k1, k2⟩
      · refine ⟨nI (S / 2 ^ k % 2), ?_, ?_⟩
        · rw [k2, if_neg (nI_pos (by omega)), if_neg (nI_ge k1 (by omega)), bnd1_s, ushr_nI k (by omega) S (by omega)]
        · rw [k3, bnd1_s, if_neg (by decide), k2, show (1 : Int32) + nI k = nI (1 + k) from nI_add 1 k, m_rowAt (by omega) (by omega), bnd1_s, ← l6 k k1, show 702 + 16 * i + (1 + k) = 703 + 16 * i + k by omega]
      · refine ⟨-1, ?_, by rw [k2, bnd1_s, if_pos rfl]⟩
        rcases k1 with k1 | ⟨k, k3, k4, k5⟩
        · rw [if_pos k1, bnd1_s]
        · rw [k5, if_neg (nI_pos k4), if_pos (nI_le k3 k4), bnd1_s]
    · rw [if_neg hp, if_neg hp]
      exact ⟨_, rfl, rfl⟩
  · have hno : (if p1 < 0 then some 0 else if nI n ≤ p1 then some 0 else if (15 : Int32) ≤ p1 then some 0 else some 1 : Option Int32) = some 0 := by
      rcases i1 with i1 | ⟨k, k3, k4, k5⟩
      · rw [if_pos i1]
      · rw [k5, if_neg (nI_pos k4), if_pos (nI_le k3 k4)]
    refine ⟨-1, ?_, by rw [i2, bnd1_s, if_pos rfl]⟩
    rw [hno, bnd1_s, bnd1_s, if_pos rfl, if_pos rfl, bnd1_s]
    by_cases hp : p3 = 0
    · rw [if_pos hp]
    · rw [if_neg hp]
theorem x_count (w : V10) (p : Int32) : ∃ r : Int32, f_X10_countOf w p = some r := by
  unfold f_X10_countOf fc_X10_countOf_19 f_X10_countOfParts f_X7_valueOf
  by_cases h0 : p < 0
  · rw [if_pos h0]
    obtain ⟨h8, h16⟩ : p < 8 ∧ p < 16 := by
      rw [Int32.lt_iff_toInt_lt] at h0 ⊢
      rw [Int32.lt_iff_toInt_lt]
      rw [show (0 : Int32).toInt = 0 from rfl] at h0
      rw [show (8 : Int32).toInt = 8 from rfl, show (16 : Int32).toInt = 16 from rfl]
      omega
    rw [if_pos h16, if_pos (Or.inl h8)]
    exact ⟨_, rfl⟩
  · obtain ⟨j, hj, e⟩ := nI_of h0
    subst e
    by_cases h29 : j < 29
    · have : ∀ j, j < 29 → j = 0 ∨ j = 1 ∨ j = 2 ∨ j = 3 ∨ j = 4 ∨ j = 5 ∨ j = 6 ∨ j = 7 ∨ j = 8 ∨ j = 9 ∨ j = 10 ∨ j = 11 ∨ j = 12 ∨ j = 13 ∨ j = 14 ∨ j = 15 ∨ j = 16 ∨ j = 17 ∨ j = 18 ∨ j = 19 ∨ j = 20 ∨ j = 21 ∨ j = 22 ∨ j = 23 ∨ j = 24 ∨ j = 25 ∨ j = 26 ∨ j = 27 ∨ j = 28 := by omega
      rcases this j h29 with h | h | h | h | h | h | h | h | h | h | h | h | h | h | h | h | h | h | h | h | h | h | h | h | h | h | h | h | h <;> subst h <;> exact ⟨_, rfl⟩
    · rw [if_neg h0, if_pos (show (7 : Int32) < nI j from nI_lt (a := 7) (by omega) hj), if_neg (show ¬ nI j < (16 : Int32) from nI_nlt (b := 16) (by omega) hj), if_pos (Or.inr (show (28 : Int32) < nI j from nI_lt (a := 28) (by omega) hj))]
      exact ⟨_, rfl⟩
theorem q_count (v0 : V11) (v : V12) (p : Int32) : ∃ r r2 : Int32, f_X11_count v0 p = some r ∧ f_X12_count v p = some (r2, (0, v.2)) := by
  obtain ⟨r, hr⟩ := x_count v0.1 p
  have hm : ∃ r2 : Int32, f_X12_count v p = some (r2, (0, v.2)) := by
    unfold f_X12_count
    rw [show f_X12_in p 0 28 = f_X12_in p 0 (nI 29 - 1) from rfl]
    rcases in0 p (n := 29) (by decide) with ⟨k, k1, k2, k3⟩ | ⟨k1, k2⟩
    · rw [k3, bnd1_s, if_neg (by decide), k2]
      have hq : ∃ r2 : Int32, f_X12_counted ((0 : Int32), v.2) (nI k) = some r2 := by
        have : ∀ j, j < 29 → j = 0 ∨ j = 1 ∨ j = 2 ∨ j = 3 ∨ j = 4 ∨ j = 5 ∨ j = 6 ∨ j = 7 ∨ j = 8 ∨ j = 9 ∨ j = 10 ∨ j = 11 ∨ j = 12 ∨ j = 13 ∨ j = 14 ∨ j = 15 ∨ j = 16 ∨ j = 17 ∨ j = 18 ∨ j = 19 ∨ j = 20 ∨ j = 21 ∨ j = 22 ∨ j = 23 ∨ j = 24 ∨ j = 25 ∨ j = 26 ∨ j = 27 ∨ j = 28 := by omega
        rcases this k k1 with h | h | h | h | h | h | h | h | h | h | h | h | h | h | h | h | h | h | h | h | h | h | h | h | h | h | h | h | h <;> subst h <;> exact ⟨_, rfl⟩
      obtain ⟨r2, e⟩ := hq
      exact ⟨r2, by rw [e, bnd1_s]⟩
    · exact ⟨-1, by rw [k2, bnd1_s, if_pos rfl]⟩
  obtain ⟨r2, h2⟩ := hm
  exact ⟨r, r2, by unfold f_X11_count; rw [hr, bnd1_s], h2⟩
end QA
end mp_60_qa
section mp_61_qb
section QB
/-- the settings' cells -/
theorem SV.cells {s : V7} {F : Nat → Int32} {c lg W BL o : Nat} (h : SV s.1 c lg W BL o) (hS : RS s F) : F 0 = nI c ∧ F 1 = nI lg ∧ F 2 = nI W ∧ F 4 = nI BL ∧ F 5 = nI o := by
  obtain ⟨g0, g1, g2, g3, g4, g5, g6, g7, g8, g9, g10, g11, g12, g13, g14⟩ := h
  exact ⟨(hS.1 0 (by decide)).trans g0, (hS.1 1 (by decide)).trans g3, (hS.1 2 (by decide)).trans g6, (hS.1 4 (by decide)).trans g9, (hS.1 5 (by decide)).trans g12⟩
theorem lmW_le (c lg n : Nat) : lmW c lg n ≤ n + 1 := (fst_no (fun k => rareb (TS c n k) (4 * n) lg) (n := n + 1) (a := 1) (d := n) (by omega)).2.1
theorem q_limit {B : Nat} {v0 : V11} {v : V12} (hR : R B v0.1 v.2.1) (p : Int32) : ∃ u : V11, u.1 = v0.1 ∧ ((∃ r : Int32, f_X11_limit v0 p = some (some r, u) ∧ f_X12_limit v p = some (r, (0, v.2))) ∨ (f_X11_limit v0 p = some (none, u) ∧ f_X12_limit v p = some (0, (1, v.2)))) := by
  obtain ⟨c, lg, W, BL, o, hSV, hS, ⟨m1, m2, m3⟩, -⟩ := hR
  obtain ⟨f0, f1, f2, f4, f5⟩ := hSV.cells hS
  have hSV0 := hSV
  obtain ⟨g0, g1, g2, g3, g4, g5, g6, g7, g8, g9, g10, g11, g12, g13, g14⟩ := hSV
  have hbad : (f_X12_in p 0 4 = some 0) → (f_X12_in p 11 25 = some 0) → f_X12_limit v p = some (0, (1, v.2)) := by
    intro h1 h2
    unfold f_X12_limit fc_X12_limit_26
    rw [h1, bnd1_s, if_pos rfl, h2, bnd1_s, if_pos rfl, if_neg (by decide)]
  by_cases h0 : p < 0
  · refine ⟨v0, rfl, Or.inr ⟨?_, hbad ?_ ?_⟩⟩
    · have h10 : p ≤ 10 := by
        rw [Int32.lt_iff_toInt_lt, show (0 : Int32).toInt = 0 from rfl] at h0
        rw [Int32.le_iff_toInt_le, show (10 : Int32).toInt = 10 from rfl]
        omega
      unfold f_X11_limit fc_X11_limit_21
      rw [if_pos h10, if_pos (Or.inl h0)]
    · unfold f_X12_in; rw [if_pos h0]
    · have h11 : p < 11 := by
        rw [Int32.lt_iff_toInt_lt, show (0 : Int32).toInt = 0 from rfl] at h0
        rw [Int32.lt_iff_toInt_lt, show (11 : Int32).toInt = 11 from rfl]
        omega
      unfold f_X12_in; rw [if_pos h11]
  · obtain ⟨j, hj, e⟩ := nI_of h0
    subst e
    have i1 : f_X12_in (nI j) 0 4 = some (if (decide (0 ≤ j) && decide (j ≤ 4)) = true then 1 else 0) := m_in2 (a := 0) (b := 4) (by decide) (by decide) hj
    have i2 : f_X12_in (nI j) 11 25 = some (if (decide (11 ≤ j) && decide (j ≤ 25)) = true then 1 else 0) := m_in2 (a := 11) (b := 25) (by decide) (by decide) hj
    by_cases h4 : j ≤ 4
    · rw [if_pos (in_dec (by omega))] at i1
      have hX : f_X11_limit v0 (nI j) = fc_X11_limit_21 v0 (nI j) := by
        unfold f_X11_limit
        rw [if_pos (show nI j ≤ (10 : Int32) from nI_le (b := 10) (by omega) (by decide))]
      have hM : f_X12_limit v (nI j) = fc_X12_limit_26 v (nI j) 0 := by
        unfold f_X12_limit fc_X12_limit_21
        rw [i1, bnd1_s, if_neg (by decide)]
      rw [hX, hM]
      unfold fc_X11_limit_21 fc_X12_limit_26
      rw [if_pos (show (0 : Int32) ≤ 0 by decide)]
      refine ⟨v0, rfl, Or.inl ?_⟩
      have : j = 0 ∨ j = 1 ∨ j = 2 ∨ j = 3 ∨ j = 4 := by omega
      rcases this with h | h | h | h | h <;> subst h
      · refine ⟨nI (lmR c lg), congrArg (fun x => some (some x, v0)) m1, ?_⟩
        show bnd1 (f_X12_repeats (0, v.2)) _ = _
        rw [m_rep (v := (0, v.2)) f0 f1 g1 g2 g4 g5, bnd1_s]
      · refine ⟨nI (lmP c lg W), congrArg (fun x => some (some x, v0)) m2, ?_⟩
        show bnd1 (f_X12_proportion (0, v.2)) _ = _
        rw [m_prop (v := (0, v.2)) f0 f1 f2 g1 g2 g5 g7 g8, bnd1_s]
      · refine ⟨nI (lmC lg W), congrArg (fun x => some (some x, v0)) m3, ?_⟩
        show bnd1 (f_X12_changes (0, v.2)) _ = _
        rw [m_chg (v := (0, v.2)) f1 f2 g5 g7 g8, bnd1_s]
      · refine ⟨nI (yv c BL o), ?_, ?_⟩
        · rw [if_neg (by decide), if_neg (by decide), if_neg (by decide), if_neg (by decide), if_pos (by decide), x_yield hSV0, bnd1_s]
        · rw [if_neg (by decide), if_neg (by decide), if_neg (by decide), if_neg (by decide), if_pos (by decide), m_yield (v := (0, v.2)) f0 f4 f5 g2 g1 g11 g14, bnd1_s]
      · refine ⟨9 * (16 - nI c), ?_, ?_⟩
        · unfold f_X7_earned
          rw [if_neg (by decide), if_neg (by decide), if_neg (by decide), if_neg (by decide), if_neg (by decide), if_pos (by decide), show (0 : Int32) = nI 0 from rfl, val_nI _ (by decide), bnd1_s, bnd1_s, g0]
        · unfold f_X12_earned
          rw [if_neg (by decide), if_neg (by decide), if_neg (by decide), if_neg (by decide), if_neg (by decide), if_pos (by decide), chk_in (show vp_in (0 : Int32) 4725 by unfold vp_in; decide), bnd1_s, show ((0 : Int32)).toNatClampNeg = 0 from rfl]
          show some (9 * (16 - v.2.1 0), _) = _
          rw [f0]
    · rw [if_neg (in_ndec (by omega))] at i1
      by_cases h25 : 11 ≤ j ∧ j ≤ 25
      · rw [if_pos (in_dec h25)] at i2
        have e10 : nI j - (10 : Int32) = nI (j - 10) := pk_sub (b := 10) (by omega)
        have hM : f_X12_limit v (nI j) = some (nI (lmW c lg (j - 10)), (0, v.2)) := by
          unfold f_X12_limit fc_X12_limit_21 fc_X12_limit_26
          rw [i1, bnd1_s, if_pos rfl, i2, bnd1_s, if_neg (by decide), if_pos (by decide), if_pos (Or.inr (show (4 : Int32) < nI j from nI_lt (a := 4) (by omega) hj)), e10, m_rows (v := (0, v.2)) f0 f1 g1 g2 g5 (by omega), bnd1_s]
        obtain ⟨T, t1, t2⟩ := x_fill v0.2.2.2.2.2.1 (c := c) (n := j - 10) g2 (by omega)
        refine ⟨(v0.1, v0.2.1, v0.2.2.1, v0.2.2.2.1, v0.2.2.2.2.1, (T, nI (j - 10), v0.2.2.2.2.2.1.2.2), v0.2.2.2.2.2.2.1, v0.2.2.2.2.2.2.2), rfl, Or.inl ⟨nI (lmW c lg (j - 10)), ?_, hM⟩⟩
        unfold f_X11_limit f_X11_rowsOf
        rw [if_neg (show ¬ nI j ≤ (10 : Int32) from nI_ge (a := 10) (by omega) hj), if_neg (show ¬ (25 : Int32) < nI j from nI_nlt (a := 25) (by omega) (by decide)), e10, show f_X7_valueOf v0.1.1 (0 : Int32) = f_X7_valueOf v0.1.1 (nI 0) from rfl, show f_X7_valueOf v0.1.1 (1 : Int32) = f_X7_valueOf v0.1.1 (nI 1) from rfl, val_nI _ (by decide), val_nI _ (by decide), bnd1_s, g0, g3, t1, bnd1_s, bnd1_s, x_least _ g1 g2 (by omega) g5 t2, bnd1_s, bnd2_s]
      · rw [if_neg (in_ndec h25)] at i2
        refine ⟨v0, rfl, Or.inr ⟨?_, hbad i1 i2⟩⟩
        have h21 : fc_X11_limit_21 v0 (nI j) = some (none, v0) := by
          unfold fc_X11_limit_21
          rw [if_pos (Or.inr (show (4 : Int32) < nI j from nI_lt (a := 4) (by omega) hj))]
        unfold f_X11_limit
        by_cases h10 : j ≤ 10
        · rw [if_pos (show nI j ≤ (10 : Int32) from nI_le (b := 10) h10 (by decide)), h21]
        · rw [if_neg (show ¬ nI j ≤ (10 : Int32) from nI_ge (a := 10) (by omega) hj), if_pos (show (25 : Int32) < nI j from nI_lt (a := 25) (by omega) hj), h21]
/-- odds in least terms -/
def z2 (n : Nat) : V2 := ((fun _ => 0), nI n, 0, 0, 0)
def odb (M0 M1 : Option (Int64 × V12)) (X0 X1 : Option Int64) : Bool := decide (M0.map Prod.fst = X0) && (decide (M1.map Prod.fst = X1) && (X0.isSome && X1.isSome))
theorem odb_of {M0 M1 : Option (Int64 × V12)} {X0 X1 : Option Int64} (h : odb M0 M1 X0 X1 = true) : (M0.map Prod.fst = X0 ∧ M1.map Prod.fst = X1) ∧ X0.isSome = true ∧ X1.isSome = true := by
  unfold odb at h
  rw [Bool.and_eq_true, Bool.and_eq_true, Bool.and_eq_true, decide_eq_true_eq, decide_eq_true_eq] at h
  exact ⟨⟨h.1, h.2.1⟩, h.2.2⟩
theorem od_ev : ∀ c, c < 16 → 8 ≤ c → ∀ n, n < 15 → ∀ j, j < 16 → odb (fc_X12_odds_67 (mv c 0) 0 (lN (TS c n j)) (nI (4 * n)) 1) (fc_X12_odds_67 (mv c 0) 1 (lN (TS c n j)) (nI (4 * n)) 1) (fc_X2_leastTerms_31 (z2 n) 0 (lN (TS c n j))) (fc_X2_leastTerms_31 (z2 n) 1 (lN (TS c n j))) = true := by decide +kernel
theorem od_ev8 : ∀ n, n < 15 → ∀ j, j < 16 → odb (fc_X12_odds_67 (mv 8 0) 0 (lN (HV n j)) (nI n) 1) (fc_X12_odds_67 (mv 8 0) 1 (lN (HV n j)) (nI n) 1) (fc_X2_leastTerms_31 (z2 n) 0 (lN (TS 8 n j))) (fc_X2_leastTerms_31 (z2 n) 1 (lN (TS 8 n j))) = true := by decide +kernel
theorem od_dep (u v : V12) (x2 : Int32) (x4 : Int64) (t0 : Int32) (t1 : Int64) : fc_X12_odds_67 v x2 x4 t0 t1 = (fc_X12_odds_67 u x2 x4 t0 t1).map (fun p => (p.1, v)) := by
  unfold fc_X12_odds_67
  rw [bnd_e, bnd_e]
  cases f_X12_measure x4 (jlshl t1 t0) with
  | none => rfl
  | some r =>
    rw [bnd1_s, bnd1_s]
    unfold chknzL
    by_cases h : x2 = 0
    · rw [if_pos h, if_pos h]
      split <;> rfl
    · rw [if_neg h, if_neg h]
      split <;> rfl
theorem lt_dep (u v : V2) : ∀ (fu : Nat) (x2 : Int32) (x3 x5 : Int64) (x7 : Int32), fb_X2_leastTerms_61 u fu x2 x3 x5 x7 = fb_X2_leastTerms_61 v fu x2 x3 x5 x7
  | 0, _, _, _, _ => rfl
  | fu + 1, x2, x3, x5, x7 => by
    have ih := lt_dep u v fu
    unfold fb_X2_leastTerms_61 fl_X2_leastTerms_61 fc_X2_leastTerms_101
    simp only [bnd_e, ih]
theorem lt_31 {u v : V2} (h : u.2.1 = v.2.1) (x2 : Int32) (t : Int64) : fc_X2_leastTerms_31 u x2 t = fc_X2_leastTerms_31 v x2 t := by
  unfold fc_X2_leastTerms_31
  rw [h, bnd_e, bnd_e, lt_dep u v]
theorem x_terms {T : Nat → Int64} {c n j : Nat} (rest : Int32 × Int32 × Int32) (hn : n ≤ 15) (hj : j ≤ n + 1) (hT : ∀ j, j < 17 → T j = lN (TS c n j)) (p : Int32) : f_X2_leastTerms (T, nI n, rest) (nI j) p = fc_X2_leastTerms_31 (z2 n) p (lN (TS c n j)) := by
  have h31 : ∀ t : Int64, fc_X2_leastTerms_31 (T, nI n, rest) p t = fc_X2_leastTerms_31 (z2 n) p t := fun t => lt_31 (u := (T, nI n, rest)) (v := z2 n) (show nI n = nI n from rfl) p t
  unfold f_X2_leastTerms fc_X2_leastTerms_21
  dsimp only
  rw [if_neg (nI_pos (by omega)), h31 0]
  by_cases h : j ≤ n
  · rw [if_neg (nI_nlt h (by omega)), if_pos (show nI j < (17 : Int32) from nI_lt (b := 17) (by omega) (by decide)), chk_nI (by omega) (by decide), nI_clamp (by omega), hT j (by omega), h31]
  · rw [if_pos (nI_lt (by omega) (by omega)), TS_out c n j (by omega)]
    rfl
theorem od_of {X : Option Int64} {Y : Option (Int64 × V12)} (e : Y.map Prod.fst = X) (h : X.isSome = true) (v : V12) : ∃ r : Int64, X = some r ∧ Y.map (fun p => (p.1, v)) = some (r, v) := by
  cases Y with
  | none => subst e; exact absurd h (by decide)
  | some y => subst e; exact ⟨y.1, rfl, rfl⟩
theorem q_odds {B : Nat} {v0 : V11} {v : V12} (hR : R B v0.1 v.2.1) (p1 p2 : Int32) (hp : p2 = 0 ∨ p2 = 1) : ∃ (r : Int64) (u : V11), u.1 = v0.1 ∧ f_X11_odds v0 p1 p2 = some (r, u) ∧ f_X12_odds v p1 p2 = some (r, (0, v.2)) := by
  obtain ⟨c, lg, W, BL, o, hSV, hS, ⟨m1, m2, m3⟩, -⟩ := hR
  obtain ⟨f0, f1, f2, f4, f5⟩ := hSV.cells hS
  obtain ⟨g0, g1, g2, g3, g4, g5, g6, g7, g8, g9, g10, g11, g12, g13, g14⟩ := hSV
  have eW : nI W - (1 : Int32) = nI (W - 1) := pk_sub (b := 1) (by omega)
  unfold f_X11_odds f_X12_odds
  rw [show f_X7_valueOf v0.1.1 (2 : Int32) = f_X7_valueOf v0.1.1 (nI 2) from rfl, show f_X7_valueOf v0.1.1 (0 : Int32) = f_X7_valueOf v0.1.1 (nI 0) from rfl, val_nI _ (by decide), val_nI _ (by decide), bnd1_s, g0, g6, bnd_e, eW, bnd1_s]
  have hlP : lmP c lg W = lmW c lg (W - 1) + 1 := lmP_eq c lg W (by omega)
  have hlW := lmW_le c lg (W - 1)
  have hlC : lmC lg W = lmW 8 lg (W - 1) := lmC_eq lg W (by omega)
  have hlW8 := lmW_le 8 lg (W - 1)
  by_cases h0 : p1 = 0
  · subst h0
    rw [if_pos rfl, show f_X12_in 0 0 1 = some 1 by decide, bnd1_s, if_neg (by decide), chk_in (show vp_in (2 : Int32) 4725 by unfold vp_in; decide), show ((2 : Int32)).toNatClampNeg = 2 from rfl, f2, eW, bnd_e, if_pos rfl, m_prop (v := (0, v.2)) f0 f1 f2 g1 g2 g5 g7 g8, bnd1_s, hlP, nI_pred, m_tail (v := (0, v.2)) f0 g1 g2 (by omega) (by omega), bnd1_s, m2, hlP, nI_pred]
    obtain ⟨T, t1, t2⟩ := x_fill v0.2.2.2.2.2.1 (c := c) (n := W - 1) g2 (by omega)
    rw [t1, bnd1_s, x_terms _ (by omega) hlW t2]
    unfold fc_X12_odds_53
    rw [if_pos rfl, show (4 : Int32) * nI (W - 1) = nI (4 * (W - 1)) from pk_mul 4 _, od_dep (mv c 0)]
    obtain ⟨⟨e1, e2⟩, e3, e4⟩ := odb_of (od_ev c (by omega) g1 (W - 1) (by omega) (lmW c lg (W - 1)) (by omega))
    rcases hp with hp | hp
    · rw [hp]
      obtain ⟨r, r1, r2⟩ := od_of e1 e3 (0, v.2)
      exact ⟨r, (v0.1, v0.2.1, v0.2.2.1, v0.2.2.2.1, v0.2.2.2.2.1, (T, nI (W - 1), v0.2.2.2.2.2.1.2.2), v0.2.2.2.2.2.2), rfl, by rw [r1, bnd1_s], r2⟩
    · rw [hp]
      obtain ⟨r, r1, r2⟩ := od_of e2 e4 (0, v.2)
      exact ⟨r, (v0.1, v0.2.1, v0.2.2.1, v0.2.2.2.1, v0.2.2.2.2.1, (T, nI (W - 1), v0.2.2.2.2.2.1.2.2), v0.2.2.2.2.2.2), rfl, by rw [r1, bnd1_s], r2⟩
  · by_cases h1 : p1 = 1
    · subst h1
      rw [if_neg (by decide), if_pos rfl, show f_X12_in 1 0 1 = some 1 by decide, bnd1_s, if_neg (by decide), chk_in (show vp_in (2 : Int32) 4725 by unfold vp_in; decide), show ((2 : Int32)).toNatClampNeg = 2 from rfl, f2, eW, bnd_e, if_neg (by decide), m_chg (v := (0, v.2)) f1 f2 g5 g7 g8, bnd1_s, hlC, halves_ev (W - 1) (by omega) _ (by omega), bnd1_s, m3, hlC]
      obtain ⟨T, t1, t2⟩ := x_fill v0.2.2.2.2.2.1 (c := 8) (n := W - 1) (by decide) (by omega)
      rw [show f_X2_fill v0.2.2.2.2.2.1 (nI (W - 1)) (8 : Int32) = _ from t1, bnd1_s, x_terms _ (by omega) hlW8 t2]
      unfold fc_X12_odds_53
      rw [if_neg (by decide), od_dep (mv 8 0)]
      obtain ⟨⟨e1, e2⟩, e3, e4⟩ := odb_of (od_ev8 (W - 1) (by omega) (lmW 8 lg (W - 1)) (by omega))
      rcases hp with hp | hp
      · rw [hp]
        obtain ⟨r, r1, r2⟩ := od_of e1 e3 (0, v.2)
        exact ⟨r, (v0.1, v0.2.1, v0.2.2.1, v0.2.2.2.1, v0.2.2.2.2.1, (T, nI (W - 1), v0.2.2.2.2.2.1.2.2), v0.2.2.2.2.2.2), rfl, by rw [r1, bnd1_s], r2⟩
      · rw [hp]
        obtain ⟨r, r1, r2⟩ := od_of e2 e4 (0, v.2)
        exact ⟨r, (v0.1, v0.2.1, v0.2.2.1, v0.2.2.2.1, v0.2.2.2.2.1, (T, nI (W - 1), v0.2.2.2.2.2.1.2.2), v0.2.2.2.2.2.2), rfl, by rw [r1, bnd1_s], r2⟩
    · refine ⟨-1, v0, rfl, by rw [if_neg h0, if_neg h1], ?_⟩
      have hi : f_X12_in p1 0 1 = some 0 := by
        rw [show f_X12_in p1 0 1 = f_X12_in p1 0 (nI 2 - 1) from rfl]
        rcases in0 p1 (n := 2) (by decide) with ⟨k, k1, k2, k3⟩ | ⟨k1, k2⟩
        · have : k = 0 ∨ k = 1 := by omega
          rcases this with e | e
          · rw [e] at k2; exact absurd k2 h0
          · rw [e] at k2; exact absurd k2 h1
        · exact k2
      rw [hi, bnd1_s, if_pos rfl]
end QB
end mp_61_qb
section mp_62_ld
section LDS
/-- the latest n bits, loaded -/
def LD (u : V0) (F : Nat → Int32) (H n : Nat) : Prop := u.2.2.1 = nI n ∧ 1 ≤ n ∧ n ≤ H ∧ H ≤ 400 ∧ F 300 = nI H ∧ ∀ k, k < n → u.1 k = F (301 + H - n + k) ∧ isb (F (301 + H - n + k))
theorem q_at {q : V4} {F : Nat → Int32} {H h o : Nat} (h1 : H ≤ 512) (h2 : h < 512) (h3 : q.2.2 = nI H) (h4 : q.2.1 = nI h) (h6 : ∀ k, k < H → F (o + k) = q.1 ((h + k) % 512) ∧ isb (F (o + k))) {k : Nat} (hk : k < H) : f_X4_bitAt q (nI k) = some (F (o + k)) := by
  unfold f_X4_bitAt
  rw [h3, h4, if_neg (nI_pos (by omega)), if_pos (nI_lt hk (by omega)), nI_add, and511 (by omega), chk_nI (Nat.mod_lt _ (by decide)) (by decide), nI_clamp (by omega), (h6 k hk).1]
theorem x_load {q : V4} {F : Nat → Int32} {H n : Nat} (hn : n ≤ H) (hH : H ≤ 400) (hat : ∀ k, k < H → f_X4_bitAt q (nI k) = some (F (301 + k))) : ∀ (d fu k : Nat) (u : V0), u.2.2.1 = nI n → k + d = n → d < fu → ∃ T : Nat → Int32, fb_X0_load_28 q fu u (nI (H - n)) (nI k) = some (T, u.2) ∧ ∀ j, j < n → T j = if j < k then u.1 j else F (301 + H - n + j) := by
  intro d
  induction d with
  | zero =>
    intro fu k u hu hk hf
    obtain ⟨fu, rfl⟩ : ∃ m, fu = m + 1 := ⟨fu - 1, by omega⟩
    refine ⟨u.1, ?_, fun j hj => by rw [if_pos (by omega)]⟩
    show fl_X0_load_28 q (fb_X0_load_28 q fu) _ _ _ = _
    unfold fl_X0_load_28
    rw [hu, if_pos (nI_le (by omega) (by omega))]
  | succ d ih =>
    intro fu k u hu hk hf
    obtain ⟨fu, rfl⟩ : ∃ m, fu = m + 1 := ⟨fu - 1, by omega⟩
    obtain ⟨T, t1, t2⟩ := ih fu (k + 1) (upd u.1 k (F (301 + H - n + k)), u.2) hu (by omega) (by omega)
    refine ⟨T, ?_, fun j hj => ?_⟩
    · refine Eq.trans ?_ t1
      show fl_X0_load_28 q (fb_X0_load_28 q fu) _ _ _ = _
      unfold fl_X0_load_28
      rw [hu, if_neg (nI_ge (by omega) (by omega)), if_neg (show ¬ (400 : Int32) ≤ nI k from nI_ge (b := 400) (by omega) (by decide)), nI_add, hat _ (by omega), bnd1_s, chk_nI (by omega) (by decide), bnd_e, bnd_e, nI_1, nI_clamp (by omega), show 301 + (H - n + k) = 301 + H - n + k by omega]
    · rw [t2 j hj]
      by_cases e : j = k
      · subst e
        rw [if_pos (by omega), if_neg (by omega)]
        exact upd_s _ _ _
      · by_cases h : j < k
        · rw [if_pos (by omega), if_pos h]
          exact upd_n e
        · rw [if_neg (by omega), if_neg h]
theorem there_rel {v0 : V11} {v : V12} (hQ : RQ 300 301 400 v0.1.2.2.2.2.2.1 v.2.1) (p : Int32) {m : Nat} (hm : m = 1 ∨ m = 2) : (f_X11_loadLatest v0 p (nI m) = some (0, v0) ∧ f_X12_isThere v p (nI m) = some 0) ∨ ∃ (n H : Nat) (u : V0), p = nI n ∧ m ≤ n ∧ LD u v.2.1 H n ∧ f_X11_loadLatest v0 p (nI m) = some (1, (v0.1, v0.2.1, v0.2.2.1, v0.2.2.2.1, u, v0.2.2.2.2.2)) ∧ f_X12_isThere v p (nI m) = some 1 := by
  obtain ⟨H, h, h1, h2, h3, h4, h5, h6⟩ := hQ
  unfold f_X11_loadLatest f_X12_isThere f_X12_in
  rw [chk_in (show vp_in (300 : Int32) 4725 by unfold vp_in; decide), show ((300 : Int32)).toNatClampNeg = 300 from rfl, h5, h3]
  by_cases c1 : p < nI m
  · exact Or.inl ⟨by rw [if_pos c1], by rw [if_pos c1, bnd1_s, chkbo0]⟩
  · rw [if_neg c1, if_neg c1]
    have h0 : ¬ p < 0 := fun e => c1 (by
      rw [Int32.lt_iff_toInt_lt] at e ⊢
      rw [nI_toInt (by omega)]
      rw [show (0 : Int32).toInt = 0 from rfl] at e
      omega)
    obtain ⟨n, hn, e⟩ := nI_of h0
    subst e
    by_cases c2 : n ≤ H
    · right
      have hmn : m ≤ n := Nat.le_of_not_lt (fun e => c1 (nI_lt e (by omega)))
      obtain ⟨T, t1, t2⟩ := x_load (q := v0.1.2.2.2.2.2.1) (F := v.2.1) c2 h1 (fun k hk => q_at (by omega) h2 h3 h4 h6 hk) n FU 0 (v0.2.2.2.2.1.1, v0.2.2.2.2.1.2.1, nI n, v0.2.2.2.2.1.2.2.2) rfl (by omega) (by show n < 8589934592; omega)
      refine ⟨n, H, (T, v0.2.2.2.2.1.2.1, nI n, v0.2.2.2.2.1.2.2.2), rfl, hmn, ⟨rfl, by omega, c2, h1, h5, fun k hk => ⟨?_, ?_⟩⟩, ?_, ?_⟩
      · show T k = _
        rw [t2 k hk, if_neg (by omega)]
      · have := (h6 (H - n + k) (by omega)).2
        rw [show 301 + (H - n + k) = 301 + H - n + k by omega] at this
        exact this
      · rw [if_pos (nI_le c2 (by omega))]
        unfold f_X0_load jmin jmax
        rw [if_neg (show ¬ (400 : Int32) < nI n from nI_nlt (a := 400) (by omega) (by decide)), bnd_e]
        have e0 : (if (0 : Int32) < nI n then nI n else 0) = nI n := by
          rw [if_pos (show (0 : Int32) < nI n from nI_lt (a := 0) (by omega) hn)]
        rw [show (if (0 : Int32) < nI n then nI n else 0) = nI n from e0, bnd_e, bnd_e, h3, pk_sub c2, show fb_X0_load_28 v0.1.2.2.2.2.2.1 FU (v0.2.2.2.2.1.1, v0.2.2.2.2.1.2.1, nI n, v0.2.2.2.2.1.2.2.2) (nI (H - n)) (0 : Int32) = _ from t1, bnd1_s]
      · rw [if_neg (nI_nlt c2 (by omega)), bnd1_s, chkbo1]
    · left
      rw [if_neg (nI_ge (by omega) hn), if_pos (nI_lt (by omega) hn), bnd1_s, chkbo0]
      exact ⟨rfl, rfl⟩
theorem m_late {v : V12} {H n k : Nat} (hH : H ≤ 400) (hn : n ≤ H) (h3 : v.2.1 300 = nI H) (hk : k < n) : f_X12_late v (nI n) (nI k) = some (v.2.1 (301 + H - n + k)) := by
  unfold f_X12_late
  rw [chk_in (show vp_in (300 : Int32) 4725 by unfold vp_in; decide), show ((300 : Int32)).toNatClampNeg = 300 from rfl, h3, show (301 : Int32) + nI H = nI (301 + H) from nI_add 301 H, pk_sub (by omega), nI_add, chk_nI (by omega) (by decide), nI_clamp (by omega)]
end LDS
end mp_62_ld
section mp_63_me
section ME
/-- the reference with another fraction -/
def sB (v : V12) (a b : Int64) : V12 := (v.1, v.2.1, v.2.2.1, v.2.2.2.1, v.2.2.2.2.1, v.2.2.2.2.2.1, v.2.2.2.2.2.2.1, v.2.2.2.2.2.2.2.1, v.2.2.2.2.2.2.2.2.1, v.2.2.2.2.2.2.2.2.2.1, v.2.2.2.2.2.2.2.2.2.2.1, v.2.2.2.2.2.2.2.2.2.2.2.1, v.2.2.2.2.2.2.2.2.2.2.2.2.1, v.2.2.2.2.2.2.2.2.2.2.2.2.2.1, v.2.2.2.2.2.2.2.2.2.2.2.2.2.2.1, v.2.2.2.2.2.2.2.2.2.2.2.2.2.2.2.1, v.2.2.2.2.2.2.2.2.2.2.2.2.2.2.2.2.1, v.2.2.2.2.2.2.2.2.2.2.2.2.2.2.2.2.2.1, v.2.2.2.2.2.2.2.2.2.2.2.2.2.2.2.2.2.2.1, a, b, v.2.2.2.2.2.2.2.2.2.2.2.2.2.2.2.2.2.2.2.2.2)
/-- the latest n bits in both -/
def BT (u : V0) (F : Nat → Int32) (n : Nat) (g : Nat → Nat) : Prop := u.2.2.1 = nI n ∧ 1 ≤ n ∧ n ≤ 400 ∧ (∀ k, k < n → g k ≤ 1 ∧ u.1 k = nI (g k)) ∧ ∀ w : V12, w.2.1 = F → ∀ k, k < n → f_X12_late w (nI n) (nI k) = some (nI (g k))
theorem LD.bt {u : V0} {F : Nat → Int32} {H n : Nat} (h : LD u F H n) : ∃ g : Nat → Nat, BT u F n g := by
  obtain ⟨h1, h2, h3, h4, h5, h6⟩ := h
  have hg : ∀ k, k < n → (u.1 k).toNatClampNeg ≤ 1 ∧ u.1 k = nI (u.1 k).toNatClampNeg := fun k hk => by
    obtain ⟨e1, e2⟩ := h6 k hk
    rw [e1]
    rcases e2 with e2 | e2 <;> rw [e2] <;> decide
  refine ⟨fun k => (u.1 k).toNatClampNeg, h1, h2, by omega, hg, fun w hw k hk => ?_⟩
  show f_X12_late w (nI n) (nI k) = some (nI (u.1 k).toNatClampNeg)
  rw [m_late h4 h3 (by rw [hw]; exact h5) hk, hw, ← (hg k hk).2, (h6 k hk).1]
theorem mx_j {a b : Nat} (ha : a < 2 ^ 31) (hb : b < 2 ^ 31) : jmax (nI a) (nI b) = nI (max a b) := by
  unfold jmax
  by_cases h : a < b
  · rw [if_pos (nI_lt h hb), Nat.max_eq_right (by omega)]
  · rw [if_neg (nI_nlt (by omega) ha), Nat.max_eq_left (by omega)]
theorem mx_g {a b : Nat} (ha : a < 2 ^ 31) (hb : b < 2 ^ 31) : f_X12_greater (nI a) (nI b) = some (nI (max a b)) := by
  unfold f_X12_greater
  by_cases h : a ≤ b
  · rw [if_pos (nI_le h hb), Nat.max_eq_right h]
  · rw [if_neg (nI_ge (by omega) ha), Nat.max_eq_left (by omega)]
theorem n400 {k : Nat} (h : k < 400) : ¬ (400 : Int32) ≤ nI k := nI_ge (b := 400) h (by decide)
theorem me_common {u : V0} {F : Nat → Int32} {n : Nat} {g : Nat → Nat} (hB : BT u F n g) {v : V12} (hv : v.2.1 = F) : ∀ (d f1 f2 k a : Nat), k + d = n → d < f1 → d < f2 → a ≤ k → ∃ r : Nat, r ≤ 400 ∧ fb_X0_measureCommon_4 f1 u (nI a) (nI k) = some (u.1, u.2.1, u.2.2.1, nI r, nI n) ∧ fb_X12_common_4 v f2 (nI n) (nI a) (nI k) = some (nI r) := by
  obtain ⟨h1, h2, h3, h4, h5⟩ := hB
  intro d
  induction d with
  | zero =>
    intro f1 f2 k a hk hf1 hf2 ha
    obtain ⟨f1, rfl⟩ : ∃ m, f1 = m + 1 := ⟨f1 - 1, by omega⟩
    obtain ⟨f2, rfl⟩ : ∃ m, f2 = m + 1 := ⟨f2 - 1, by omega⟩
    refine ⟨max a (n - a), by omega, ?_, ?_⟩
    · show fl_X0_measureCommon_4 (fb_X0_measureCommon_4 f1) u _ _ = _
      unfold fl_X0_measureCommon_4 fc_X0_measureCommon_34
      rw [h1, if_pos (nI_le (by omega) (by omega)), pk_sub (by omega), mx_j (by omega) (by omega), bnd_e]
    · show fl_X12_common_4 v (fb_X12_common_4 v f2) _ _ _ = _
      unfold fl_X12_common_4
      rw [if_pos (nI_le (by omega) (by omega)), pk_sub (by omega), mx_g (by omega) (by omega), bnd1_s]
  | succ d ih =>
    intro f1 f2 k a hk hf1 hf2 ha
    obtain ⟨f1, rfl⟩ : ∃ m, f1 = m + 1 := ⟨f1 - 1, by omega⟩
    obtain ⟨f2, rfl⟩ : ∃ m, f2 = m + 1 := ⟨f2 - 1, by omega⟩
    obtain ⟨g1, g2⟩ := h4 k (by omega)
    obtain ⟨r, r1, r2, r3⟩ := ih f1 f2 (k + 1) (a + g k) (by omega) (by omega) (by omega) (by omega)
    refine ⟨r, r1, ?_, ?_⟩
    · refine Eq.trans ?_ r2
      show fl_X0_measureCommon_4 (fb_X0_measureCommon_4 f1) u _ _ = _
      unfold fl_X0_measureCommon_4
      rw [h1, if_neg (nI_ge (by omega) (by omega)), if_neg (n400 (by omega)), chk_nI (by omega) (by decide), nI_clamp (by omega), g2, nI_add, bnd_e, bnd_e, nI_1]
    · refine Eq.trans ?_ r3
      show fl_X12_common_4 v (fb_X12_common_4 v f2) _ _ _ = _
      unfold fl_X12_common_4
      rw [if_neg (nI_ge (by omega) (by omega)), h5 v hv k (by omega), bnd1_s, nI_add, bnd_e, bnd_e, nI_1]
theorem me_coll {u : V0} {F : Nat → Int32} {n : Nat} {g : Nat → Nat} (hB : BT u F n g) {v : V12} (hv : v.2.1 = F) : ∀ (D f1 f2 k a b : Nat), n - k < D → D + 1 < f1 → D < f2 → k ≤ n → a ≤ k → b ≤ k → ∃ a2 b2 : Nat, a2 ≤ 400 ∧ b2 ≤ 400 ∧ fb_X0_measureCollision_12 f1 (u.1, u.2.1, u.2.2.1, nI a, nI b) (nI k) = some (u.1, u.2.1, u.2.2.1, nI a2, nI b2) ∧ fb_X12_laysCollision_12 f2 (sB v (lN a) (lN b)) (nI n) (nI k) = some (sB v (lN a2) (lN b2)) := by
  obtain ⟨h1, h2, h3, h4, h5⟩ := hB
  intro D
  induction D with
  | zero => intro f1 f2 k a b h; exact absurd h (Nat.not_lt_zero _)
  | succ D ih =>
    intro f1 f2 k a b hD hf1 hf2 hk ha hb
    obtain ⟨f1, rfl⟩ : ∃ m, f1 = m + 1 := ⟨f1 - 1, by omega⟩
    obtain ⟨f2, rfl⟩ : ∃ m, f2 = m + 1 := ⟨f2 - 1, by omega⟩
    by_cases hend : n ≤ k + 1
    · refine ⟨a, b, by omega, by omega, ?_, ?_⟩
      · show fl_X0_measureCollision_12 (fb_X0_measureCollision_12 f1) _ _ = _
        unfold fl_X0_measureCollision_12
        dsimp only
        rw [h1, nI_1, if_pos (nI_le hend (by omega))]
      · show fl_X12_laysCollision_12 (fb_X12_laysCollision_12 f2) _ _ _ = _
        unfold fl_X12_laysCollision_12
        rw [nI_1, if_pos (nI_le hend (by omega))]
    · obtain ⟨g1, g2⟩ := h4 k (by omega)
      obtain ⟨g3, g4⟩ := h4 (k + 1) (by omega)
      have key : ∀ t : Nat, t = 2 ∨ t = 3 → ∃ a2 b2 : Nat, a2 ≤ 400 ∧ b2 ≤ 400 ∧ fc_X0_measureCollision_53 (fb_X0_measureCollision_12 f1) (u.1, u.2.1, u.2.2.1, nI a, nI b) (nI k) (nI t) = some (u.1, u.2.1, u.2.2.1, nI a2, nI b2) ∧ fc_X12_laysCollision_41 (fb_X12_laysCollision_12 f2) (sB v (lN a) (lN b)) (nI n) (nI k) (nI t) = some (sB v (lN a2) (lN b2)) := by
        intro t ht
        unfold fc_X0_measureCollision_53 fc_X12_laysCollision_41
        dsimp only
        rw [nI_add, h1, bnd_e]
        by_cases hc : k + t ≤ n
        · obtain ⟨a2, b2, r1, r2, r3, r4⟩ := ih f1 f2 (k + t) (a + t) (b + 1) (by omega) (by omega) (by omega) hc (by omega) (by omega)
          refine ⟨a2, b2, r1, r2, ?_, ?_⟩
          · rw [if_neg (nI_nlt hc (by omega)), bnd_e, bnd_e, nI_add, nI_1, ← h1]
            exact r3
          · rw [if_pos (nI_le hc (by omega)), bnd_e, bnd_e, bnd_e, nI_l (by omega)]
            refine Eq.trans ?_ r4
            show fb_X12_laysCollision_12 f2 (sB v (lN a + lN t) (lN b + 1)) (nI n) (nI (k + t)) = _
            rw [lN_add, lN_1]
        · obtain ⟨f1, rfl⟩ : ∃ m, f1 = m + 1 := ⟨f1 - 1, by omega⟩
          refine ⟨a, b, by omega, by omega, ?_, ?_⟩
          · rw [if_pos (nI_lt (by omega) (by omega)), ← h1]
            show fl_X0_measureCollision_12 (fb_X0_measureCollision_12 f1) _ _ = _
            unfold fl_X0_measureCollision_12
            dsimp only
            rw [h1, nI_1, if_pos (nI_le (by omega) (by omega))]
          · rw [if_neg (nI_ge (by omega) (by omega))]
      have hX : fb_X0_measureCollision_12 (f1 + 1) (u.1, u.2.1, u.2.2.1, nI a, nI b) (nI k) = if g k = g (k + 1) then fc_X0_measureCollision_53 (fb_X0_measureCollision_12 f1) (u.1, u.2.1, u.2.2.1, nI a, nI b) (nI k) (nI 2) else fc_X0_measureCollision_53 (fb_X0_measureCollision_12 f1) (u.1, u.2.1, u.2.2.1, nI a, nI b) (nI k) (nI 3) := by
        show fl_X0_measureCollision_12 (fb_X0_measureCollision_12 f1) _ _ = _
        unfold fl_X0_measureCollision_12
        dsimp only
        rw [h1, nI_1, if_neg (nI_ge (by omega) (by omega)), if_neg (n400 (by omega)), chk_nI (by omega) (by decide), chk_nI (by omega) (by decide), nI_clamp (by omega), nI_clamp (by omega)]
        by_cases e : g k = g (k + 1)
        · rw [if_pos (show u.1 k = u.1 (k + 1) by rw [g2, g4, e]), if_pos e]
          rfl
        · rw [if_neg (show ¬ u.1 k = u.1 (k + 1) by rw [g2, g4]; exact fun q => e ((nI_eq (by omega) (by omega)).mp q)), if_neg e]
          rfl
      have hM : fb_X12_laysCollision_12 (f2 + 1) (sB v (lN a) (lN b)) (nI n) (nI k) = if g k = g (k + 1) then fc_X12_laysCollision_41 (fb_X12_laysCollision_12 f2) (sB v (lN a) (lN b)) (nI n) (nI k) (nI 2) else fc_X12_laysCollision_41 (fb_X12_laysCollision_12 f2) (sB v (lN a) (lN b)) (nI n) (nI k) (nI 3) := by
        show fl_X12_laysCollision_12 (fb_X12_laysCollision_12 f2) _ _ _ = _
        unfold fl_X12_laysCollision_12
        rw [nI_1, if_neg (nI_ge (by omega) (by omega)), h5 (sB v (lN a) (lN b)) hv k (by omega), bnd1_s, h5 (sB v (lN a) (lN b)) hv (k + 1) (by omega), bnd1_s]
        by_cases e : g k = g (k + 1)
        · rw [if_pos (by rw [e]), if_pos e]
          rfl
        · rw [if_neg (fun q => e ((nI_eq (by omega) (by omega)).mp q)), if_neg e]
          rfl
      rw [hX, hM]
      by_cases e : g k = g (k + 1)
      · rw [if_pos e, if_pos e]; exact key 2 (Or.inl rfl)
      · rw [if_neg e, if_neg e]; exact key 3 (Or.inr rfl)
/-- after which bit, how many; and how many ones follow -/
def fc_ (g : Nat → Nat) (b : Nat) : Nat → Nat
  | 0 => 0
  | k + 1 => fc_ g b k + (if g k = b then 1 else 0)
def fs_ (g : Nat → Nat) (b : Nat) : Nat → Nat
  | 0 => 0
  | k + 1 => fs_ g b k + (if g k = b then g (k + 1) else 0)
theorem fc_s (g : Nat → Nat) (b k : Nat) : fc_ g b (k + 1) = fc_ g b k + (if g k = b then 1 else 0) := rfl
theorem fs_s (g : Nat → Nat) (b k : Nat) : fs_ g b (k + 1) = fs_ g b k + (if g k = b then g (k + 1) else 0) := rfl
theorem fs_le {g : Nat → Nat} {b n : Nat} (h : ∀ k, k < n → g k ≤ 1) : ∀ k, k < n → fs_ g b k ≤ fc_ g b k ∧ fc_ g b k ≤ k
  | 0, _ => ⟨Nat.le_refl _, Nat.le_refl _⟩
  | k + 1, hk => by
    have ih := fs_le (b := b) h k (by omega)
    have := h (k + 1) hk
    unfold fs_ fc_
    by_cases e : g k = b
    · rw [if_pos e, if_pos e]; omega
    · rw [if_neg e, if_neg e]; omega
theorem fc_sum {g : Nat → Nat} {n : Nat} (h : ∀ k, k < n → g k ≤ 1) : ∀ k, k ≤ n → fc_ g 0 k + fc_ g 1 k = k
  | 0, _ => rfl
  | k + 1, hk => by
    have ih := fc_sum h k (by omega)
    have := h k (by omega)
    unfold fc_
    have e : g k = 0 ∨ g k = 1 := by omega
    rcases e with e | e
    · rw [if_pos e, if_neg (by omega)]; omega
    · rw [if_neg (by omega), if_pos e]; omega
theorem me_follow {u : V0} {F : Nat → Int32} {n : Nat} {g : Nat → Nat} (hB : BT u F n g) : ∀ (d f1 k : Nat), k + d + 1 = n → d < f1 → fb_X0_measureFollow_9 f1 u (nI (fc_ g 1 k)) (nI (fs_ g 1 k)) (nI (fs_ g 0 k)) (nI k) = fc_X0_measureFollow_77 u (nI (fc_ g 1 (n - 1))) (nI (fs_ g 1 (n - 1))) (nI (fs_ g 0 (n - 1))) := by
  obtain ⟨h1, h2, h3, h4, h5⟩ := hB
  intro d
  induction d with
  | zero =>
    intro f1 k hk hf1
    obtain ⟨f1, rfl⟩ : ∃ m, f1 = m + 1 := ⟨f1 - 1, by omega⟩
    have hk2 : k = n - 1 := by omega
    subst hk2
    show fl_X0_measureFollow_9 (fb_X0_measureFollow_9 f1) u _ _ _ _ = _
    unfold fl_X0_measureFollow_9
    rw [h1, nI_1, if_pos (nI_le (by omega) (by omega))]
  | succ d ih =>
    intro f1 k hk hf1
    obtain ⟨f1, rfl⟩ : ∃ m, f1 = m + 1 := ⟨f1 - 1, by omega⟩
    have ih := ih f1 (k + 1) (by omega) (by omega)
    obtain ⟨g1, g2⟩ := h4 k (by omega)
    obtain ⟨g3, g4⟩ := h4 (k + 1) (by omega)
    refine Eq.trans ?_ ih
    show fl_X0_measureFollow_9 (fb_X0_measureFollow_9 f1) u _ _ _ _ = _
    unfold fl_X0_measureFollow_9
    rw [h1, nI_1, if_neg (nI_ge (by omega) (by omega)), if_neg (n400 (by omega)), chk_nI (by omega) (by decide), nI_clamp (n := k) (by omega), nI_clamp (n := k + 1) (by omega), g4, fc_s, fs_s, fs_s]
    by_cases e : g k = 1
    · rw [if_pos (show u.1 k = (1 : Int32) by rw [g2, e]; rfl), bnd_e, chk_nI (by omega) (by decide), bnd_e, bnd_e, nI_1, nI_add, if_pos e, if_pos e, if_neg (show ¬ g k = 0 by omega)]
      rfl
    · rw [if_neg (show ¬ u.1 k = (1 : Int32) by rw [g2]; exact fun q => e ((nI_eq (b := 1) (by omega) (by decide)).mp q)), chk_nI (by omega) (by decide), bnd_e, bnd_e, nI_add, if_neg e, if_neg e, if_pos (show g k = 0 by omega)]
      rfl
theorem me_after {u : V0} {F : Nat → Int32} {n : Nat} {g : Nat → Nat} (hB : BT u F n g) {v : V12} (hv : v.2.1 = F) {b : Nat} (hb : b ≤ 1) : ∀ (d f1 k : Nat), k + d + 1 = n → d < f1 → fb_X12_laysAfter_8 f1 v (nI n) (nI b) (nI (fs_ g b k)) (nI (fc_ g b k)) (nI k) = some (sB v (lN (max (fs_ g b (n - 1)) (fc_ g b (n - 1) - fs_ g b (n - 1)))) (lN (fc_ g b (n - 1)))) := by
  obtain ⟨h1, h2, h3, h4, h5⟩ := hB
  intro d
  induction d with
  | zero =>
    intro f1 k hk hf1
    obtain ⟨f1, rfl⟩ : ∃ m, f1 = m + 1 := ⟨f1 - 1, by omega⟩
    have hk2 : k = n - 1 := by omega
    subst hk2
    obtain ⟨l1, l2⟩ := fs_le (b := b) (fun k hk => (h4 k hk).1) (n - 1) (by omega)
    show fl_X12_laysAfter_8 (fb_X12_laysAfter_8 f1) v _ _ _ _ _ = _
    unfold fl_X12_laysAfter_8
    rw [nI_1, if_pos (nI_le (by omega) (by omega)), pk_sub l1, mx_g (by omega) (by omega), bnd1_s, bnd_e, bnd_e, nI_l (by omega), nI_l (by omega)]
    rfl
  | succ d ih =>
    intro f1 k hk hf1
    obtain ⟨f1, rfl⟩ : ∃ m, f1 = m + 1 := ⟨f1 - 1, by omega⟩
    have ih := ih f1 (k + 1) (by omega) (by omega)
    refine Eq.trans ?_ ih
    obtain ⟨g1, g2⟩ := h4 k (by omega)
    show fl_X12_laysAfter_8 (fb_X12_laysAfter_8 f1) v _ _ _ _ _ = _
    unfold fl_X12_laysAfter_8
    rw [nI_1, if_neg (nI_ge (by omega) (by omega)), h5 v hv k (by omega), bnd1_s, h5 v hv (k + 1) (by omega), fc_s, fs_s]
    by_cases e : g k = b
    · rw [if_pos (by rw [e]), bnd_e, bnd1_s, bnd_e, bnd_e, nI_1, nI_add, if_pos e, if_pos e]
    · rw [if_neg (fun q => e ((nI_eq (by omega) (by omega)).mp q)), bnd_e, if_neg e, if_neg e]
      rfl
theorem lays_follow {u : V0} {F : Nat → Int32} {n : Nat} {g : Nat → Nat} (hB : BT u F n g) {v : V12} (hv : v.2.1 = F) : ∃ a b : Nat, a ≤ 400 ∧ b ≤ 400 ∧ f_X0_measureFollow u = some (u.1, u.2.1, u.2.2.1, nI a, nI b) ∧ f_X12_laysFollow v (nI n) = some (sB v (lN a) (lN b)) := by
  have hB0 := hB
  obtain ⟨h1, h2, h3, h4, h5⟩ := hB
  have hg : ∀ k, k < n → g k ≤ 1 := fun k hk => (h4 k hk).1
  have hX := me_follow hB0 (n - 1) FU 0 (by omega) (by show n - 1 < 8589934592; omega)
  have hM0 := me_after hB0 hv (b := 0) (by omega) (n - 1) FU 0 (by omega) (by show n - 1 < 8589934592; omega)
  have hM1 := me_after hB0 (v := sB v (lN (max (fs_ g 0 (n - 1)) (fc_ g 0 (n - 1) - fs_ g 0 (n - 1)))) (lN (fc_ g 0 (n - 1)))) hv (b := 1) (by omega) (n - 1) FU 0 (by omega) (by show n - 1 < 8589934592; omega)
  obtain ⟨l1, l2⟩ := fs_le (b := 0) hg (n - 1) (by omega)
  obtain ⟨l3, l4⟩ := fs_le (b := 1) hg (n - 1) (by omega)
  have hs := fc_sum hg (n - 1) (by omega)
  generalize fs_ g 0 (n - 1) = s0 at *
  generalize fs_ g 1 (n - 1) = s1 at *
  generalize fc_ g 0 (n - 1) = c0 at *
  generalize fc_ g 1 (n - 1) = c1 at *
  have hX' : f_X0_measureFollow u = fc_X0_measureFollow_77 u (nI c1) (nI s1) (nI s0) := hX
  have hM0' : f_X12_laysAfter v (nI n) 0 = some (sB v (lN (max s0 (c0 - s0))) (lN c0)) := hM0
  have hM1' : f_X12_laysAfter (sB v (lN (max s0 (c0 - s0))) (lN c0)) (nI n) 1 = some (sB v (lN (max s1 (c1 - s1))) (lN c1)) := hM1
  unfold f_X12_laysFollow
  rw [hX', hM0', bnd1_s, hM1', bnd1_s]
  unfold fc_X0_measureFollow_77 fc_X12_laysFollow_60 fc_X12_laysFollow_56 fc_X12_laysFollow_61 fc_X12_laysFollow_77
  rw [h1, show nI n - (1 : Int32) = nI (n - 1) from pk_sub (b := 1) (by omega), pk_sub (by omega), show n - 1 - c1 = c0 by omega, bnd_e, pk_sub l3, pk_sub l1, mx_j (by omega) (by omega), mx_j (by omega) (by omega), bnd_e, bnd_e, pk_mul, pk_mul]
  have hx1 : max s1 (c1 - s1) ≤ c1 := by omega
  have hx0 : max s0 (c0 - s0) ≤ c0 := by omega
  generalize max s0 (c0 - s0) = m0 at *
  generalize max s1 (c1 - s1) = m1 at *
  have b1 : m1 * c0 ≤ 400 * 400 := Nat.mul_le_mul (by omega) (by omega)
  have b2 : m0 * c1 ≤ 400 * 400 := Nat.mul_le_mul (by omega) (by omega)
  have q1 : (sB v (lN m1) (lN c1)).2.2.2.2.2.2.2.2.2.2.2.2.2.2.2.2.2.2.2.2.1 = lN c1 := rfl
  have q2 : (sB v (lN m1) (lN c1)).2.2.2.2.2.2.2.2.2.2.2.2.2.2.2.2.2.2.2.1 = lN m1 := rfl
  have q3 : (sB v (lN m0) (lN c0)).2.2.2.2.2.2.2.2.2.2.2.2.2.2.2.2.2.2.2.2.1 = lN c0 := rfl
  have q4 : (sB v (lN m0) (lN c0)).2.2.2.2.2.2.2.2.2.2.2.2.2.2.2.2.2.2.2.1 = lN m0 := rfl
  rw [q1, q2, q3, q4, lN_mul, lN_mul, if_pos rfl, if_pos rfl, if_neg (show ¬ (1 : Int32) = 0 by decide), if_neg (show ¬ (1 : Int32) = 0 by decide)]
  by_cases z1 : c1 = 0
  · by_cases z0 : c0 = 0
    · refine ⟨m1, c1, by omega, by omega, ?_, ?_⟩
      · rw [if_pos (show nI c0 = (0 : Int32) by rw [z0]; rfl)]
      · rw [if_pos (show lN c1 ≤ (0 : Int64) by rw [z1]; decide), show m0 = m1 by omega, show c0 = c1 by omega]
        rfl
    · refine ⟨m0, c0, by omega, by omega, ?_, ?_⟩
      · rw [if_neg (show ¬ nI c0 = (0 : Int32) from fun q => z0 ((nI_eq (b := 0) (by omega) (by decide)).mp q)), if_pos (nI_le (by rw [show m1 = 0 by omega, Nat.zero_mul]; exact Nat.zero_le _) (by omega))]
      · rw [if_pos (show lN c1 ≤ (0 : Int64) by rw [z1]; decide)]
        rfl
  · rw [if_neg (show ¬ lN c1 ≤ (0 : Int64) from fun q => absurd ((lN_le (b := 0) (by omega) (by decide)).mp q) (by omega))]
    by_cases z0 : c0 = 0
    · refine ⟨m1, c1, by omega, by omega, ?_, ?_⟩
      · rw [if_pos (show nI c0 = (0 : Int32) by rw [z0]; rfl)]
      · rw [if_pos (show lN c0 = (0 : Int64) by rw [z0]; rfl)]
        rfl
    · rw [if_neg (show ¬ nI c0 = (0 : Int32) from fun q => z0 ((nI_eq (b := 0) (by omega) (by decide)).mp q)), if_neg (show ¬ lN c0 = (0 : Int64) from fun q => z0 ((lN_eq (b := 0) (by omega) (by decide)).mp q))]
      by_cases e : m1 * c0 ≤ m0 * c1
      · refine ⟨m0, c0, by omega, by omega, ?_, ?_⟩
        · rw [if_pos (nI_le e (by omega))]
        · rw [if_pos ((lN_le (by omega) (by omega)).mpr e)]
          rfl
      · refine ⟨m1, c1, by omega, by omega, ?_, ?_⟩
        · rw [if_neg (nI_ge (by omega) (by omega))]
        · rw [if_neg (fun q => e ((lN_le (by omega) (by omega)).mp q))]
          rfl
theorem measure_rel {u : V0} {F : Nat → Int32} {n : Nat} {g : Nat → Nat} (hB : BT u F n g) {v : V12} (hv : v.2.1 = F) {p : Nat} (hp : p < 3) : ∃ a b : Nat, a ≤ 400 ∧ b ≤ 400 ∧ f_X0_measure u (nI p) = some (u.1, u.2.1, u.2.2.1, nI a, nI b) ∧ f_X12_laysBound v (nI p) (nI n) = some (sB v (lN a) (lN b)) := by
  have h3 := hB.2.2.1
  unfold f_X0_measure f_X12_laysBound
  have hp3 : p = 0 ∨ p = 1 ∨ p = 2 := by omega
  rcases hp3 with e | e | e <;> subst e
  · obtain ⟨r, r1, r2, r3⟩ := me_common hB hv n FU FU 0 0 (by omega) (by show n < 8589934592; omega) (by show n < 8589934592; omega) (by omega)
    have r2' : f_X0_measureCommon u = some (u.1, u.2.1, u.2.2.1, nI r, nI n) := r2
    have r3' : f_X12_common v (nI n) = some (nI r) := r3
    refine ⟨r, n, r1, h3, ?_, ?_⟩
    · rw [if_pos (by decide), r2', bnd1_s]
    · rw [if_pos (by decide), r3', bnd1_s, bnd_e, bnd_e, nI_l (by omega), nI_l (by omega)]
      rfl
  · obtain ⟨a2, b2, r1, r2, r3, r4⟩ := me_coll hB hv (n + 1) FU FU 0 0 0 (by omega) (by show n + 1 + 1 < 8589934592; omega) (by show n + 1 < 8589934592; omega) (by omega) (by omega) (by omega)
    have r3' : f_X0_measureCollision u = some (u.1, u.2.1, u.2.2.1, nI a2, nI b2) := r3
    have r4' : f_X12_laysCollision v (nI n) = some (sB v (lN a2) (lN b2)) := r4
    refine ⟨a2, b2, r1, r2, ?_, ?_⟩
    · rw [if_neg (by decide), if_pos (by decide), r3', bnd1_s]
    · rw [if_neg (by decide), if_pos (by decide), r4', bnd1_s]
  · obtain ⟨a2, b2, r1, r2, r3, r4⟩ := lays_follow hB hv
    refine ⟨a2, b2, r1, r2, ?_, ?_⟩
    · rw [if_neg (by decide), if_neg (by decide), r3, bnd1_s]
    · rw [if_neg (by decide), if_neg (by decide), r4, bnd1_s]
end ME
end mp_63_me
section mp_64_hb
section HBS
theorem measure_all {u : V0} {F : Nat → Int32} {n : Nat} {g : Nat → Nat} (hB : BT u F n g) {v : V12} (hv : v.2.1 = F) {p : Nat} (hp : p < 3) : ∃ a b : Nat, a ≤ 400 ∧ b ≤ 400 ∧ f_X0_measure u (nI p) = some (u.1, u.2.1, u.2.2.1, nI a, nI b) ∧ ∀ w : V12, w.2.1 = F → f_X12_laysBound w (nI p) (nI n) = some (sB w (lN a) (lN b)) := by
  obtain ⟨a, b, h1, h2, h3, h4⟩ := measure_rel hB hv hp
  refine ⟨a, b, h1, h2, h3, fun w hw => ?_⟩
  obtain ⟨a2, b2, k1, k2, k3, k4⟩ := measure_rel hB hw hp
  rw [h3] at k3
  have e := Option.some.inj k3
  have e1 : nI a = nI a2 := congrArg (fun x : V0 => x.2.2.2.1) e
  have e2 : nI b = nI b2 := congrArg (fun x : V0 => x.2.2.2.2) e
  rw [(nI_eq (by omega) (by omega)).mp e1, (nI_eq (by omega) (by omega)).mp e2]
  exact k4
theorem q_bound {v0 : V11} {v : V12} (hQ : RQ 300 301 400 v0.1.2.2.2.2.2.1 v.2.1) (p1 p2 p3 : Int32) : ∃ (r : Int32) (u : V11) (v2 : V12), u.1 = v0.1 ∧ f_X11_bound v0 p1 p2 p3 = some (r, u) ∧ f_X12_bound v p1 p2 p3 = some (r, v2) ∧ SM v v2 := by
  unfold f_X11_bound f_X12_bound
  rw [show f_X12_in p1 0 2 = f_X12_in p1 0 (nI 3 - 1) from rfl]
  rcases in0 p1 (n := 3) (by decide) with ⟨k, k1, k2, k3⟩ | ⟨k1, k2⟩
  · rw [k3, bnd1_s, if_neg (show ¬ (1 : Int32) = 0 by decide), k2, if_neg (nI_pos (by omega)), if_neg (show ¬ (2 : Int32) < nI k from nI_nlt (a := 2) (by omega) (by decide))]
    rcases there_rel (v := (0, v.2)) hQ p2 (m := 2) (Or.inr rfl) with ⟨t1, t2⟩ | ⟨n, H, u, e, t1, t2, t3, t4⟩
    · rw [show f_X11_loadLatest v0 p2 (2 : Int32) = _ from t1, bnd2_s, if_pos rfl, show f_X12_isThere ((0 : Int32), v.2) p2 (2 : Int32) = _ from t2, bnd1_s, if_pos rfl]
      exact ⟨-1, (v0.1, v0.2.1, v0.2.2.1, v0.2.2.2.1, v0.2.2.2.2.1, v0.2.2.2.2.2.1, v0.2.2.2.2.2.2.1, v0.2.2.2.2.2.2.2), (0, v.2), rfl, rfl, rfl, rfl, rfl, rfl⟩
    · rw [show f_X11_loadLatest v0 p2 (2 : Int32) = _ from t3, bnd2_s, if_neg (show ¬ (1 : Int32) = 0 by decide), show f_X12_isThere ((0 : Int32), v.2) p2 (2 : Int32) = _ from t4, bnd1_s, if_neg (show ¬ (1 : Int32) = 0 by decide)]
      obtain ⟨g, hB⟩ := t2.bt
      obtain ⟨a, b, m1, m2, m3, m4⟩ := measure_rel hB (v := (0, v.2)) rfl k1
      dsimp only
      rw [m3, bnd1_s, e, m4, bnd1_s]
      by_cases hp : p3 = 0
      · rw [if_pos hp, if_pos hp]
        refine ⟨nI a, (v0.1, v0.2.1, v0.2.2.1, v0.2.2.2.1, (u.1, u.2.1, u.2.2.1, nI a, nI b), v0.2.2.2.2.2.1, v0.2.2.2.2.2.2.1, v0.2.2.2.2.2.2.2), sB (0, v.2) (lN a) (lN b), rfl, rfl, ?_, rfl, rfl, rfl⟩
        show some ((lN a).toInt32, _) = _
        rw [lN_i]
      · rw [if_neg hp, if_neg hp]
        refine ⟨nI b, (v0.1, v0.2.1, v0.2.2.1, v0.2.2.2.1, (u.1, u.2.1, u.2.2.1, nI a, nI b), v0.2.2.2.2.2.1, v0.2.2.2.2.2.2.1, v0.2.2.2.2.2.2.2), sB (0, v.2) (lN a) (lN b), rfl, rfl, ?_, rfl, rfl, rfl⟩
        show some ((lN b).toInt32, _) = _
        rw [lN_i]
  · rw [k2, bnd1_s, if_pos rfl]
    refine ⟨-1, v0, (0, v.2), rfl, ?_, rfl, rfl, rfl, rfl⟩
    rcases k1 with k1 | ⟨k, k3, k4, k5⟩
    · rw [if_pos k1]
    · rw [k5, if_neg (nI_pos k4), if_pos (show (2 : Int32) < nI k from nI_lt (a := 2) (by omega) k4)]
/-- does the fraction hold -/
def hd_ (p a b c : Nat) : Bool := if p = 1 then decide (b * (512 + 2 * c * (16 - c)) ≤ 256 * a) else decide (16 * a ≤ b * c)
theorem x_held {u : V0} {p a b c : Nat} (hp : p < 3) (ha : a ≤ 400) (hb : b ≤ 400) (hc : c ≤ 16) (e1 : u.2.2.2.1 = nI a) (e2 : u.2.2.2.2 = nI b) : f_X0_holdsBy u (nI p) (nI c) = some (if hd_ p a b c = true then 1 else 0) := by
  have z1 : 2 * c * (16 - c) ≤ 32 * 16 := Nat.mul_le_mul (by omega) (by omega)
  have z2 : b * (512 + 2 * c * (16 - c)) ≤ 400 * 1024 := Nat.mul_le_mul hb (by omega)
  have z3 : b * c ≤ 400 * 16 := Nat.mul_le_mul hb hc
  unfold f_X0_holdsBy hd_
  rw [e1, e2, show (16 : Int32) - nI c = nI (16 - c) from pk_sub (a := 16) hc, show (2 : Int32) * nI c = nI (2 * c) from pk_mul 2 c, pk_mul, show (512 : Int32) + nI (2 * c * (16 - c)) = nI (512 + 2 * c * (16 - c)) from nI_add 512 _, pk_mul, pk_mul, show (256 : Int32) * nI a = nI (256 * a) from pk_mul 256 a, show (16 : Int32) * nI a = nI (16 * a) from pk_mul 16 a]
  by_cases h1 : p = 1
  · rw [if_pos (show nI p = (1 : Int32) by rw [h1]; rfl), if_pos h1]
    by_cases h : b * (512 + 2 * c * (16 - c)) ≤ 256 * a
    · rw [if_neg (nI_nlt h (by omega)), if_pos (decide_eq_true h)]
    · rw [if_pos (nI_lt (by omega) (by omega)), if_neg (by rw [decide_eq_false h]; decide)]
  · rw [if_neg (show ¬ nI p = (1 : Int32) from fun q => h1 ((nI_eq (b := 1) (by omega) (by decide)).mp q)), if_neg h1]
    by_cases h : 16 * a ≤ b * c
    · rw [if_neg (nI_nlt h (by omega)), if_pos (decide_eq_true h)]
    · rw [if_pos (nI_lt (by omega) (by omega)), if_neg (by rw [decide_eq_false h]; decide)]
theorem m_held {v : V12} {n p a b c : Nat} (hp : p < 3) (ha : a ≤ 400) (hb : b ≤ 400) (hc : c ≤ 16) (e : f_X12_laysBound v (nI p) (nI n) = some (sB v (lN a) (lN b))) : f_X12_isHeld v (nI p) (nI n) (nI c) = some ((if hd_ p a b c = true then 1 else 0), sB v (lN a) (lN b)) := by
  have z1 : 2 * c * (16 - c) ≤ 32 * 16 := Nat.mul_le_mul (by omega) (by omega)
  have z2 : b * (512 + 2 * c * (16 - c)) ≤ 400 * 1024 := Nat.mul_le_mul hb (by omega)
  have z3 : b * c ≤ 400 * 16 := Nat.mul_le_mul hb hc
  have q1 : (sB v (lN a) (lN b)).2.2.2.2.2.2.2.2.2.2.2.2.2.2.2.2.2.2.2.2.1 = lN b := rfl
  have q2 : (sB v (lN a) (lN b)).2.2.2.2.2.2.2.2.2.2.2.2.2.2.2.2.2.2.2.1 = lN a := rfl
  unfold f_X12_isHeld hd_
  rw [e, bnd1_s, q1, q2, show (16 : Int32) - nI c = nI (16 - c) from pk_sub (a := 16) hc, show (2 : Int32) * nI c = nI (2 * c) from pk_mul 2 c, pk_mul, show (512 : Int32) + nI (2 * c * (16 - c)) = nI (512 + 2 * c * (16 - c)) from nI_add 512 _, nI_l (by omega), nI_l (by omega), lN_mul, lN_mul, show (256 : Int64) * lN a = lN (256 * a) from lN_mul 256 a, show (16 : Int64) * lN a = lN (16 * a) from lN_mul 16 a]
  by_cases h1 : p = 1
  · rw [if_pos (show nI p = (1 : Int32) by rw [h1]; rfl), if_pos h1]
    by_cases h : b * (512 + 2 * c * (16 - c)) ≤ 256 * a
    · rw [if_neg (fun q => absurd ((lN_lt (by omega) (by omega)).mp q) (by omega)), if_pos (decide_eq_true h)]
    · rw [if_pos ((lN_lt (by omega) (by omega)).mpr (by omega)), if_neg (by rw [decide_eq_false h]; decide)]
  · rw [if_neg (show ¬ nI p = (1 : Int32) from fun q => h1 ((nI_eq (b := 1) (by omega) (by decide)).mp q)), if_neg h1]
    by_cases h : 16 * a ≤ b * c
    · rw [if_neg (fun q => absurd ((lN_lt (by omega) (by omega)).mp q) (by omega)), if_pos (decide_eq_true h)]
    · rw [if_pos ((lN_lt (by omega) (by omega)).mpr (by omega)), if_neg (by rw [decide_eq_false h]; decide)]
theorem holds_loop {F : Nat → Int32} {n c : Nat} {g : Nat → Nat} (hc : c ≤ 16) : ∀ (d f1 f2 k : Nat) (x2 : Int32) (v0 : V11) (v : V12), k + d = 3 → d < f1 → d < f2 → v0.1.1.1 0 = nI c → F 0 = nI c → v.2.1 = F → BT v0.2.2.2.2.1 F n g → ∃ (r : Int32) (u : V11) (v2 : V12), u.1 = v0.1 ∧ fb_X11_holds_15 f1 v0 x2 (nI k) = some (r, u) ∧ fb_X12_holds_20 f2 v (nI n) x2 (nI k) = some (r, v2) ∧ SM v v2 := by
  intro d
  induction d with
  | zero =>
    intro f1 f2 k x2 v0 v hk hf1 hf2 h0 h1 hv hB
    obtain ⟨f1, rfl⟩ : ∃ m, f1 = m + 1 := ⟨f1 - 1, by omega⟩
    obtain ⟨f2, rfl⟩ : ∃ m, f2 = m + 1 := ⟨f2 - 1, by omega⟩
    have hk : k = 3 := by omega
    subst hk
    refine ⟨x2, v0, v, rfl, ?_, ?_, rfl, rfl, rfl⟩
    · show fl_X11_holds_15 (fb_X11_holds_15 f1) _ _ _ = _
      unfold fl_X11_holds_15
      rw [if_pos (by decide)]
    · show fl_X12_holds_20 (fb_X12_holds_20 f2) _ _ _ _ = _
      unfold fl_X12_holds_20
      rw [if_pos (by decide)]
  | succ d ih =>
    intro f1 f2 k x2 v0 v hk hf1 hf2 h0 h1 hv hB
    obtain ⟨f1, rfl⟩ : ∃ m, f1 = m + 1 := ⟨f1 - 1, by omega⟩
    obtain ⟨f2, rfl⟩ : ∃ m, f2 = m + 1 := ⟨f2 - 1, by omega⟩
    obtain ⟨a, b, m1, m2, m3, m4⟩ := measure_rel hB hv (p := k) (by omega)
    have hX := x_held (u := (v0.2.2.2.2.1.1, v0.2.2.2.2.1.2.1, v0.2.2.2.2.1.2.2.1, nI a, nI b)) (p := k) (c := c) (by omega) m1 m2 hc rfl rfl
    have hM := m_held (v := v) (n := n) (p := k) (c := c) (by omega) m1 m2 hc m4
    have key : ∀ y2 : Int32, ∃ (r : Int32) (u : V11) (v2 : V12), u.1 = v0.1 ∧ fb_X11_holds_15 f1 (v0.1, v0.2.1, v0.2.2.1, v0.2.2.2.1, (v0.2.2.2.2.1.1, v0.2.2.2.2.1.2.1, v0.2.2.2.2.1.2.2.1, nI a, nI b), v0.2.2.2.2.2) y2 (nI (k + 1)) = some (r, u) ∧ fb_X12_holds_20 f2 (sB v (lN a) (lN b)) (nI n) y2 (nI (k + 1)) = some (r, v2) ∧ SM v v2 := fun y2 => ih f1 f2 (k + 1) y2 (v0.1, v0.2.1, v0.2.2.1, v0.2.2.2.1, (v0.2.2.2.2.1.1, v0.2.2.2.2.1.2.1, v0.2.2.2.2.1.2.2.1, nI a, nI b), v0.2.2.2.2.2) (sB v (lN a) (lN b)) (by omega) (by omega) (by omega) h0 h1 hv hB
    have eX : fb_X11_holds_15 (f1 + 1) v0 x2 (nI k) = fb_X11_holds_15 f1 (v0.1, v0.2.1, v0.2.2.1, v0.2.2.2.1, (v0.2.2.2.2.1.1, v0.2.2.2.2.1.2.1, v0.2.2.2.2.1.2.2.1, nI a, nI b), v0.2.2.2.2.2) (if hd_ k a b c = true then x2 ||| ((1 : Int32) <<< (nI k &&& 31)) else x2) (nI (k + 1)) := by
      show fl_X11_holds_15 (fb_X11_holds_15 f1) _ _ _ = _
      unfold fl_X11_holds_15
      rw [if_neg (show ¬ (2 : Int32) < nI k from nI_nlt (a := 2) (by omega) (by decide)), m3, bnd1_s, show f_X7_valueOf v0.1.1 (0 : Int32) = f_X7_valueOf v0.1.1 (nI 0) from rfl, val_nI _ (by decide), bnd1_s, h0, hX, bnd1_s]
      by_cases h : hd_ k a b c = true
      · rw [if_neg (by rw [if_pos h]; decide), if_pos h, bnd_e, bnd_e, nI_1]
      · rw [if_pos (by rw [if_neg h]), if_neg h, bnd_e, nI_1]
    have eM : fb_X12_holds_20 (f2 + 1) v (nI n) x2 (nI k) = fb_X12_holds_20 f2 (sB v (lN a) (lN b)) (nI n) (if hd_ k a b c = true then x2 ||| ((1 : Int32) <<< (nI k &&& 31)) else x2) (nI (k + 1)) := by
      show fl_X12_holds_20 (fb_X12_holds_20 f2) _ _ _ _ = _
      unfold fl_X12_holds_20
      rw [if_neg (show ¬ (3 : Int32) ≤ nI k from nI_ge (b := 3) (by omega) (by decide)), chk_in (show vp_in (0 : Int32) 4725 by unfold vp_in; decide), show ((0 : Int32)).toNatClampNeg = 0 from rfl, hv, h1, hM, bnd2_s]
      by_cases h : hd_ k a b c = true
      · rw [if_neg (by rw [if_pos h]; decide), if_pos h, bnd_e, bnd_e, nI_1]
      · rw [if_pos (by rw [if_neg h]), if_neg h, bnd_e, bnd_e, nI_1, Int32.or_zero]
    rw [eX, eM]
    exact key _
theorem q_holds {B : Nat} {v0 : V11} {v : V12} (hR : R B v0.1 v.2.1) (p : Int32) : ∃ (r : Int32) (u : V11) (v2 : V12), u.1 = v0.1 ∧ f_X11_holds v0 p = some (r, u) ∧ f_X12_holds v p = some (r, v2) ∧ SM v v2 := by
  obtain ⟨c, lg, W, BL, o, hSV, hS, -, -, -, -, hQ, -⟩ := hR
  obtain ⟨f0, -⟩ := hSV.cells hS
  unfold f_X11_holds f_X12_holds
  rcases there_rel (v := (0, v.2)) hQ p (m := 2) (Or.inr rfl) with ⟨t1, t2⟩ | ⟨n, H, u, e, t1, t2, t3, t4⟩
  · rw [show f_X11_loadLatest v0 p (2 : Int32) = _ from t1, bnd2_s, if_pos rfl, show f_X12_isThere ((0 : Int32), v.2) p (2 : Int32) = _ from t2, bnd1_s, if_pos rfl]
    exact ⟨-1, (v0.1, v0.2.1, v0.2.2.1, v0.2.2.2.1, v0.2.2.2.2.1, v0.2.2.2.2.2.1, v0.2.2.2.2.2.2.1, v0.2.2.2.2.2.2.2), (0, v.2), rfl, rfl, rfl, rfl, rfl, rfl⟩
  · rw [show f_X11_loadLatest v0 p (2 : Int32) = _ from t3, bnd2_s, if_neg (show ¬ (1 : Int32) = 0 by decide), show f_X12_isThere ((0 : Int32), v.2) p (2 : Int32) = _ from t4, bnd1_s, if_neg (show ¬ (1 : Int32) = 0 by decide), e]
    obtain ⟨g, hB⟩ := t2.bt
    exact holds_loop (n := n) (c := c) (g := g) (F := v.2.1) (by have := hSV.2.2.1; omega) 3 FU FU 0 0 (v0.1, v0.2.1, v0.2.2.1, v0.2.2.2.1, u, v0.2.2.2.2.2.1, v0.2.2.2.2.2.2.1, v0.2.2.2.2.2.2.2) (0, v.2) (by omega) (by decide) (by decide) hSV.1 f0 rfl hB
theorem fst_max (P Q : Nat → Bool) : ∀ (m a d : Nat), d = a + m → (∀ k, a ≤ k → P k = true → P (k + 1) = true) → (∀ k, a ≤ k → Q k = true → Q (k + 1) = true) → fstk (fun k => P k && Q k) d a m = max (fstk P d a m) (fstk Q d a m)
  | 0, a, d, hd, _, _ => (Nat.max_self d).symm
  | m + 1, a, d, hd, hP, hQ => by
    have ih := fst_max P Q m (a + 1) d (by omega) (fun k hk => hP k (by omega)) (fun k hk => hQ k (by omega))
    have gP := (fst_no P (n := d) (a := a + 1) (d := m) (by omega)).1
    have gQ := (fst_no Q (n := d) (a := a + 1) (d := m) (by omega)).1
    have one : ∀ T : Nat → Bool, T (a + 1) = true → fstk T d (a + 1) m = a + 1 := by
      intro T hT
      cases m with
      | zero => show d = a + 1; omega
      | succ m => unfold fstk; rw [if_pos hT]
    show (if (P a && Q a) = true then a else fstk (fun k => P k && Q k) d (a + 1) m) = max (if P a = true then a else fstk P d (a + 1) m) (if Q a = true then a else fstk Q d (a + 1) m)
    rw [ih]
    by_cases hp : P a = true
    · by_cases hq : Q a = true
      · rw [if_pos (by rw [hp, hq]; rfl), if_pos hp, if_pos hq, Nat.max_self]
      · rw [if_neg (by rw [hp]; exact hq), if_pos hp, if_neg hq, one P (hP a (Nat.le_refl _) hp)]
        omega
    · by_cases hq : Q a = true
      · rw [if_neg (by rw [hq, Bool.and_true]; exact hp), if_neg hp, if_pos hq, one Q (hQ a (Nat.le_refl _) hq)]
        omega
      · rw [if_neg (by rw [Bool.and_eq_true]; exact fun h => hp h.1), if_neg hp, if_neg hq]
theorem x_least_c {p a b : Nat} (hp : p < 3) (ha : a ≤ 400) (hb : b ≤ 400) {v0 : V11} (e1 : v0.2.2.2.2.1.2.2.2.1 = nI a) (e2 : v0.2.2.2.2.1.2.2.2.2 = nI b) : ∀ (d fu k : Nat), k + d = 16 → d < fu → fb_X11_leastChance_11 fu v0 (nI p) (nI k) = some (nI (fstk (fun c => hd_ p a b c) 16 k d), v0) := by
  intro d
  induction d with
  | zero =>
    intro fu k hk hf
    obtain ⟨fu, rfl⟩ : ∃ m, fu = m + 1 := ⟨fu - 1, by omega⟩
    have hk : k = 16 := by omega
    subst hk
    show fl_X11_leastChance_11 (fb_X11_leastChance_11 fu) _ _ _ = _
    unfold fl_X11_leastChance_11
    rw [if_pos (by decide)]
    rfl
  | succ d ih =>
    intro fu k hk hf
    obtain ⟨fu, rfl⟩ : ∃ m, fu = m + 1 := ⟨fu - 1, by omega⟩
    show fl_X11_leastChance_11 (fb_X11_leastChance_11 fu) _ _ _ = some (nI (if hd_ p a b k = true then k else fstk (fun c => hd_ p a b c) 16 (k + 1) d), v0)
    unfold fl_X11_leastChance_11
    rw [if_neg (show ¬ (16 : Int32) ≤ nI k from nI_ge (b := 16) (by omega) (by decide)), x_held hp ha hb (by omega) e1 e2, bnd1_s]
    by_cases h : hd_ p a b k = true
    · rw [if_neg (by rw [if_pos h]; decide), if_pos h]
    · rw [if_pos (by rw [if_neg h]), if_neg h, bnd_e, nI_1]
      exact ih fu (k + 1) (by omega) (by omega)
theorem m_claim {F : Nat → Int32} {n a0 b0 a2 b2 : Nat} (x1 : a0 ≤ 400) (x2 : b0 ≤ 400) (x3 : a2 ≤ 400) (x4 : b2 ≤ 400) (h0 : ∀ w : V12, w.2.1 = F → f_X12_laysBound w (nI 0) (nI n) = some (sB w (lN a0) (lN b0))) (h2 : ∀ w : V12, w.2.1 = F → f_X12_laysBound w (nI 2) (nI n) = some (sB w (lN a2) (lN b2))) : ∀ (d fu k : Nat) (v : V12), k + d = 16 → d < fu → v.2.1 = F → ∃ v2 : V12, fb_X12_claim_19 fu v (nI n) (nI k) = some (nI (fstk (fun c => hd_ 0 a0 b0 c && hd_ 2 a2 b2 c) 16 k d), v2) ∧ SM v v2 := by
  intro d
  induction d with
  | zero =>
    intro fu k v hk hf hv
    obtain ⟨fu, rfl⟩ : ∃ m, fu = m + 1 := ⟨fu - 1, by omega⟩
    have hk : k = 16 := by omega
    subst hk
    refine ⟨v, ?_, rfl, rfl, rfl⟩
    show fl_X12_claim_19 (fb_X12_claim_19 fu) _ _ _ = _
    unfold fl_X12_claim_19
    rw [if_pos (by decide)]
    rfl
  | succ d ih =>
    intro fu k v hk hf hv
    obtain ⟨fu, rfl⟩ : ∃ m, fu = m + 1 := ⟨fu - 1, by omega⟩
    have k0 := m_held (v := v) (n := n) (p := 0) (c := k) (by decide) x1 x2 (by omega) (h0 v hv)
    have k2 := m_held (v := sB v (lN a0) (lN b0)) (n := n) (p := 2) (c := k) (by decide) x3 x4 (by omega) (h2 (sB v (lN a0) (lN b0)) hv)
    have hM : fb_X12_claim_19 (fu + 1) v (nI n) (nI k) = (if hd_ 0 a0 b0 k = true then (if hd_ 2 a2 b2 k = true then some (nI k, sB (sB v (lN a0) (lN b0)) (lN a2) (lN b2)) else fb_X12_claim_19 fu (sB (sB v (lN a0) (lN b0)) (lN a2) (lN b2)) (nI n) (nI (k + 1))) else fb_X12_claim_19 fu (sB v (lN a0) (lN b0)) (nI n) (nI (k + 1))) := by
      show fl_X12_claim_19 (fb_X12_claim_19 fu) _ _ _ = _
      unfold fl_X12_claim_19
      rw [if_neg (show ¬ (16 : Int32) ≤ nI k from nI_ge (b := 16) (by omega) (by decide)), show f_X12_isHeld v (0 : Int32) (nI n) (nI k) = _ from k0, bnd2_s]
      by_cases h : hd_ 0 a0 b0 k = true
      · rw [if_neg (by rw [if_pos h]; decide), if_pos h, show f_X12_isHeld (sB v (lN a0) (lN b0)) (2 : Int32) (nI n) (nI k) = _ from k2, bnd2_s]
        by_cases h' : hd_ 2 a2 b2 k = true
        · rw [if_neg (by rw [if_pos h']; decide), if_pos h']
        · rw [if_pos (by rw [if_neg h']), if_neg h', bnd_e, nI_1]
      · rw [if_pos (by rw [if_neg h]), if_neg h, bnd_e, nI_1]
    show ∃ v2 : V12, fb_X12_claim_19 (fu + 1) v (nI n) (nI k) = some (nI (if (hd_ 0 a0 b0 k && hd_ 2 a2 b2 k) = true then k else fstk (fun c => hd_ 0 a0 b0 c && hd_ 2 a2 b2 c) 16 (k + 1) d), v2) ∧ SM v v2
    rw [hM]
    by_cases h : hd_ 0 a0 b0 k = true
    · by_cases h' : hd_ 2 a2 b2 k = true
      · rw [if_pos h, if_pos h', if_pos (by rw [h, h']; rfl)]
        exact ⟨_, rfl, rfl, rfl, rfl⟩
      · rw [if_pos h, if_neg h', if_neg (by rw [Bool.and_eq_true]; exact fun q => h' q.2)]
        exact ih fu (k + 1) (sB (sB v (lN a0) (lN b0)) (lN a2) (lN b2)) (by omega) (by omega) hv
    · rw [if_neg h, if_neg (by rw [Bool.and_eq_true]; exact fun q => h q.1)]
      exact ih fu (k + 1) (sB v (lN a0) (lN b0)) (by omega) (by omega) hv
theorem hd_mono {p a b : Nat} (hp : p ≠ 1) (k : Nat) (h : hd_ p a b k = true) : hd_ p a b (k + 1) = true := by
  unfold hd_ at h ⊢
  rw [if_neg hp, decide_eq_true_eq] at h ⊢
  rw [Nat.mul_succ]
  omega
theorem q_claim {v0 : V11} {v : V12} (hQ : RQ 300 301 400 v0.1.2.2.2.2.2.1 v.2.1) (p : Int32) : ∃ (r : Int32) (u : V11) (v2 : V12), u.1 = v0.1 ∧ f_X11_claim v0 p = some (r, u) ∧ f_X12_claim v p = some (r, v2) ∧ SM v v2 := by
  unfold f_X11_claim f_X12_claim
  rcases there_rel (v := (0, v.2)) hQ p (m := 2) (Or.inr rfl) with ⟨t1, t2⟩ | ⟨n, H, u, e, t1, t2, t3, t4⟩
  · rw [show f_X11_loadLatest v0 p (2 : Int32) = _ from t1, bnd2_s, if_pos rfl, show f_X12_isThere ((0 : Int32), v.2) p (2 : Int32) = _ from t2, bnd1_s, if_pos rfl]
    exact ⟨-1, (v0.1, v0.2.1, v0.2.2.1, v0.2.2.2.1, v0.2.2.2.2.1, v0.2.2.2.2.2.1, v0.2.2.2.2.2.2.1, v0.2.2.2.2.2.2.2), (0, v.2), rfl, rfl, rfl, rfl, rfl, rfl⟩
  · rw [show f_X11_loadLatest v0 p (2 : Int32) = _ from t3, bnd2_s, if_neg (show ¬ (1 : Int32) = 0 by decide), show f_X12_isThere ((0 : Int32), v.2) p (2 : Int32) = _ from t4, bnd1_s, if_neg (show ¬ (1 : Int32) = 0 by decide), e]
    obtain ⟨g, hB⟩ := t2.bt
    obtain ⟨a0, b0, x1, x2, x3, x4⟩ := measure_all hB (v := (0, v.2)) rfl (p := 0) (by decide)
    have hB2 : BT (u.1, u.2.1, u.2.2.1, nI a0, nI b0) v.2.1 n g := hB
    obtain ⟨a2, b2, y1, y2, y3, y4⟩ := measure_all hB2 (v := (0, v.2)) rfl (p := 2) (by decide)
    have c0 := x_least_c (p := 0) (by decide) x1 x2 (v0 := (v0.1, v0.2.1, v0.2.2.1, v0.2.2.2.1, (u.1, u.2.1, u.2.2.1, nI a0, nI b0), v0.2.2.2.2.2.1, v0.2.2.2.2.2.2.1, v0.2.2.2.2.2.2.2)) rfl rfl 8 FU 8 (by omega) (by decide)
    have c2 := x_least_c (p := 2) (by decide) y1 y2 (v0 := (v0.1, v0.2.1, v0.2.2.1, v0.2.2.2.1, (u.1, u.2.1, u.2.2.1, nI a2, nI b2), v0.2.2.2.2.2.1, v0.2.2.2.2.2.2.1, v0.2.2.2.2.2.2.2)) rfl rfl 8 FU 8 (by omega) (by decide)
    obtain ⟨v2, m1, m2⟩ := m_claim x1 x2 y1 y2 x4 y4 8 FU 8 (0, v.2) (by omega) (by decide) rfl
    have l0 := (fst_no (fun c => hd_ 0 a0 b0 c) (n := 16) (a := 8) (d := 8) rfl).2.1
    have l2 := (fst_no (fun c => hd_ 2 a2 b2 c) (n := 16) (a := 8) (d := 8) rfl).2.1
    refine ⟨nI (max (fstk (fun c => hd_ 0 a0 b0 c) 16 8 8) (fstk (fun c => hd_ 2 a2 b2 c) 16 8 8)), (v0.1, v0.2.1, v0.2.2.1, v0.2.2.2.1, (u.1, u.2.1, u.2.2.1, nI a2, nI b2), v0.2.2.2.2.2.1, v0.2.2.2.2.2.2.1, v0.2.2.2.2.2.2.2), v2, rfl, ?_, ?_, m2⟩
    · unfold f_X11_leastChance
      dsimp only
      rw [show f_X0_measure u (0 : Int32) = _ from x3, bnd1_s, show fb_X11_leastChance_11 FU (v0.1, v0.2.1, v0.2.2.1, v0.2.2.2.1, (u.1, u.2.1, u.2.2.1, nI a0, nI b0), v0.2.2.2.2.2.1, v0.2.2.2.2.2.2.1, v0.2.2.2.2.2.2.2) (0 : Int32) (8 : Int32) = _ from c0, bnd2_s]
      dsimp only
      rw [show f_X0_measure (u.1, u.2.1, u.2.2.1, nI a0, nI b0) (2 : Int32) = _ from y3, bnd1_s]
      dsimp only
      rw [show fb_X11_leastChance_11 FU (v0.1, v0.2.1, v0.2.2.1, v0.2.2.2.1, (u.1, u.2.1, u.2.2.1, nI a2, nI b2), v0.2.2.2.2.2.1, v0.2.2.2.2.2.2.1, v0.2.2.2.2.2.2.2) (2 : Int32) (8 : Int32) = _ from c2, bnd2_s, mx_j (by omega) (by omega), bnd_e]
    · rw [show fb_X12_claim_19 FU (0, v.2) (nI n) (8 : Int32) = _ from m1, fst_max _ _ 8 8 16 rfl (fun k _ h => hd_mono (by decide) k h) (fun k _ h => hd_mono (by decide) k h)]
end HBS
end mp_64_hb
section mp_65_lg
section LG
/-- how many are alike at a lag, from k on -/
def alc (g : Nat → Nat) (l : Nat) : Nat → Nat → Nat → Nat
  | 0, _, a => a
  | d + 1, k, a => alc g l d (k + 1) (if g k = g (k - l) then a + 1 else a)
theorem alc_le (g : Nat → Nat) (l : Nat) : ∀ d k a, alc g l d k a ≤ a + d
  | 0, _, _ => Nat.le_refl _
  | d + 1, k, a => by
    have ih := alc_le g l d (k + 1) (if g k = g (k - l) then a + 1 else a)
    show alc g l d (k + 1) (if g k = g (k - l) then a + 1 else a) ≤ a + (d + 1)
    by_cases h : g k = g (k - l)
    · rw [if_pos h] at ih ⊢; omega
    · rw [if_neg h] at ih ⊢; omega
theorem x_alike {u : V0} {F : Nat → Int32} {n : Nat} {g : Nat → Nat} (hB : BT u F n g) {l : Nat} (hl : 1 ≤ l) : ∀ (d fu k a : Nat), k + d = n → l ≤ k → d < fu → fb_X0_alikeAt_11 u fu (nI l) (nI a) (nI k) = some (nI (alc g l d k a)) := by
  obtain ⟨h1, h2, h3, h4, h5⟩ := hB
  intro d
  induction d with
  | zero =>
    intro fu k a hk hlk hf
    obtain ⟨fu, rfl⟩ : ∃ m, fu = m + 1 := ⟨fu - 1, by omega⟩
    show fl_X0_alikeAt_11 u (fb_X0_alikeAt_11 u fu) _ _ _ = _
    unfold fl_X0_alikeAt_11
    rw [h1, if_pos (nI_le (by omega) (by omega))]
    rfl
  | succ d ih =>
    intro fu k a hk hlk hf
    obtain ⟨fu, rfl⟩ : ∃ m, fu = m + 1 := ⟨fu - 1, by omega⟩
    obtain ⟨g1, g2⟩ := h4 k (by omega)
    obtain ⟨g3, g4⟩ := h4 (k - l) (by omega)
    have ih := ih fu (k + 1) (if g k = g (k - l) then a + 1 else a) (by omega) (by omega) (by omega)
    refine Eq.trans ?_ ih
    show fl_X0_alikeAt_11 u (fb_X0_alikeAt_11 u fu) _ _ _ = _
    unfold fl_X0_alikeAt_11
    rw [h1, if_neg (nI_ge (by omega) (by omega)), if_neg (n400 (by omega)), pk_sub hlk, chk_nI (by omega) (by decide), chk_nI (by omega) (by decide), nI_clamp (by omega), nI_clamp (by omega)]
    by_cases e : g k = g (k - l)
    · rw [if_pos (show u.1 k = u.1 (k - l) by rw [g2, g4, e]), if_pos e, bnd_e, bnd_e, nI_1, nI_1]
    · rw [if_neg (show ¬ u.1 k = u.1 (k - l) by rw [g2, g4]; exact fun q => e ((nI_eq (by omega) (by omega)).mp q)), if_neg e, bnd_e, nI_1]
theorem m_lagged {u : V0} {F : Nat → Int32} {n : Nat} {g : Nat → Nat} (hB : BT u F n g) {v : V12} (hv : v.2.1 = F) {l : Nat} (hl : 1 ≤ l) : ∀ (d fu k a : Nat), k + d = n → l ≤ k → d < fu → fb_X12_lagged_5 v fu (nI n) (nI l) (nI a) (nI k) = some (nI (alc g l d k a)) := by
  obtain ⟨h1, h2, h3, h4, h5⟩ := hB
  intro d
  induction d with
  | zero =>
    intro fu k a hk hlk hf
    obtain ⟨fu, rfl⟩ : ∃ m, fu = m + 1 := ⟨fu - 1, by omega⟩
    show fl_X12_lagged_5 v (fb_X12_lagged_5 v fu) _ _ _ _ = _
    unfold fl_X12_lagged_5
    rw [if_pos (nI_le (by omega) (by omega))]
    rfl
  | succ d ih =>
    intro fu k a hk hlk hf
    obtain ⟨fu, rfl⟩ : ∃ m, fu = m + 1 := ⟨fu - 1, by omega⟩
    obtain ⟨g1, g2⟩ := h4 k (by omega)
    obtain ⟨g3, g4⟩ := h4 (k - l) (by omega)
    have ih := ih fu (k + 1) (if g k = g (k - l) then a + 1 else a) (by omega) (by omega) (by omega)
    refine Eq.trans ?_ ih
    show fl_X12_lagged_5 v (fb_X12_lagged_5 v fu) _ _ _ _ = _
    unfold fl_X12_lagged_5
    rw [if_neg (nI_ge (by omega) (by omega)), pk_sub hlk, h5 v hv k (by omega), bnd1_s, h5 v hv (k - l) (by omega), bnd1_s]
    by_cases e : g k = g (k - l)
    · rw [if_pos (by rw [e]), if_pos e, bnd_e, bnd_e, nI_1, nI_1]
    · rw [if_neg (fun q => e ((nI_eq (by omega) (by omega)).mp q)), if_neg e, bnd_e, bnd_e, nI_1, Int32.add_zero]
def alk (g : Nat → Nat) (n l : Nat) : Nat := alc g l (n - l) l 0
theorem alk_le (g : Nat → Nat) (n l : Nat) : alk g n l ≤ n := by
  have := alc_le g l (n - l) l 0
  unfold alk
  omega
theorem al_x {u : V0} {F : Nat → Int32} {n : Nat} {g : Nat → Nat} (hB : BT u F n g) {l : Nat} (hl : 1 ≤ l) (hln : l ≤ n) : f_X0_alikeAt u (nI l) = some (nI (alk g n l)) := by
  have h3 := hB.2.2.1
  unfold f_X0_alikeAt
  rw [if_pos (show (1 : Int32) ≤ nI l from nI_le (a := 1) hl (by omega))]
  exact x_alike hB hl (n - l) FU l 0 (by omega) (by omega) (by show n - l < 8589934592; omega)
theorem al_m {u : V0} {F : Nat → Int32} {n : Nat} {g : Nat → Nat} (hB : BT u F n g) {v : V12} (hv : v.2.1 = F) {l : Nat} (hl : 1 ≤ l) (hln : l ≤ n) : f_X12_lagged v (nI n) (nI l) = some (nI (alk g n l)) := by
  have h3 := hB.2.2.1
  exact m_lagged hB hv hl (n - l) FU l 0 (by omega) (by omega) (by show n - l < 8589934592; omega)
theorem is_there {v : V12} {H n m : Nat} (hH : H ≤ 400) (h3 : v.2.1 300 = nI H) (hm : m ≤ n) (hn : n ≤ H) : f_X12_isThere v (nI n) (nI m) = some 1 := by
  unfold f_X12_isThere f_X12_in
  rw [chk_in (show vp_in (300 : Int32) 4725 by unfold vp_in; decide), show ((300 : Int32)).toNatClampNeg = 300 from rfl, h3, if_neg (nI_nlt hm (by omega)), if_neg (nI_nlt hn (by omega)), bnd1_s, chkbo1]
theorem q_lag {v0 : V11} {v : V12} (hQ : RQ 300 301 400 v0.1.2.2.2.2.2.1 v.2.1) (p1 p2 : Int32) : ∃ (r : Int32) (u : V11) (v2 : V12), u.1 = v0.1 ∧ f_X11_lag v0 p1 p2 = some (r, u) ∧ f_X12_lag v p1 p2 = some (r, v2) ∧ SM v v2 := by
  have hx : (f_X11_loadLatest v0 p1 (2 : Int32) = some (0, v0)) → ∃ u : V11, u.1 = v0.1 ∧ f_X11_lag v0 p1 p2 = some (-1, u) := by
    intro h
    unfold f_X11_lag
    by_cases c1 : p2 < 1
    · exact ⟨v0, rfl, by rw [if_pos c1]⟩
    · rw [if_neg c1]
      by_cases c2 : 32 < p2
      · exact ⟨v0, rfl, by rw [if_pos c2]⟩
      · rw [if_neg c2]
        by_cases c3 : p1 ≤ p2
        · exact ⟨v0, rfl, by rw [if_pos c3]⟩
        · rw [if_neg c3, h, bnd2_s, if_pos rfl]
          exact ⟨(v0.1, v0.2.1, v0.2.2.1, v0.2.2.2.1, v0.2.2.2.2.1, v0.2.2.2.2.2.1, v0.2.2.2.2.2.2.1, v0.2.2.2.2.2.2.2), rfl, rfl⟩
  rcases there_rel (v := (0, v.2)) hQ p1 (m := 1) (Or.inl rfl) with ⟨s1, s2⟩ | ⟨n, H, u1, e, s1, s2, s3, s4⟩
  · have hM : f_X12_lag v p1 p2 = some (-1, (0, v.2)) := by
      unfold f_X12_lag
      rw [show f_X12_isThere ((0 : Int32), v.2) p1 (1 : Int32) = _ from s2, bnd1_s, if_pos rfl]
    rcases there_rel (v := (0, v.2)) hQ p1 (m := 2) (Or.inr rfl) with ⟨t1, t2⟩ | ⟨n, H, u, e, t1, t2, t3, t4⟩
    · obtain ⟨u, u1, u2⟩ := hx t1
      exact ⟨-1, u, (0, v.2), u1, u2, hM, rfl, rfl, rfl⟩
    · obtain ⟨-, -, d3, d4, d5, -⟩ := t2
      rw [e, is_there (v := (0, v.2)) d4 d5 (by omega) d3] at s2
      exact absurd s2 (by decide)
  · subst e
    obtain ⟨-, -, d3, d4, d5, -⟩ := s2
    have hM : f_X12_lag v (nI n) p2 = bnd1 (f_X12_in p2 1 (nI (min 32 (n - 1)))) fun r_3 => if r_3 = (0 : Int32) then (some (((-1 : Int32), ((0 : Int32), v.2)))) else (bnd1 (f_X12_lagged (((0 : Int32), v.2)) (nI n) p2) fun r_4 => some ((r_4, ((0 : Int32), v.2)))) := by
      unfold f_X12_lag f_X12_lesser
      rw [show f_X12_isThere ((0 : Int32), v.2) (nI n) (1 : Int32) = _ from s4, bnd1_s, if_neg (by decide), show nI n - (1 : Int32) = nI (n - 1) from pk_sub (b := 1) s1]
      by_cases h : n - 1 ≤ 32
      · rw [if_pos (show nI (n - 1) ≤ (32 : Int32) from nI_le (b := 32) h (by decide)), bnd1_s, Nat.min_eq_right h]
      · rw [if_neg (show ¬ nI (n - 1) ≤ (32 : Int32) from nI_ge (a := 32) (by omega) (by omega)), bnd1_s, Nat.min_eq_left (by omega)]
        rfl
    rcases there_rel (v := (0, v.2)) hQ (nI n) (m := 2) (Or.inr rfl) with ⟨t1, t2⟩ | ⟨n2, H2, u, e, t1, t2, t3, t4⟩
    · obtain ⟨u, u1, u2⟩ := hx t1
      have h1 : n = 1 := by
        by_cases h : 2 ≤ n
        · rw [is_there (v := (0, v.2)) d4 d5 h d3] at t2
          exact absurd t2 (by decide)
        · omega
      refine ⟨-1, u, (0, v.2), u1, u2, ?_, rfl, rfl, rfl⟩
      rw [hM, h1]
      have hi : f_X12_in p2 1 (nI (min 32 (1 - 1))) = some 0 := by
        unfold f_X12_in
        by_cases c1 : p2 < 1
        · rw [if_pos c1]
        · rw [if_neg c1, if_pos]
          rw [Int32.lt_iff_toInt_lt] at c1 ⊢
          rw [show (1 : Int32).toInt = 1 from rfl] at c1
          rw [show (nI (min 32 (1 - 1))).toInt = 0 from rfl]
          omega
      rw [hi, bnd1_s, if_pos rfl]
    · have en : n = n2 := (nI_eq (by omega) (by have := t2.2.2.1; have := t2.2.2.2.1; omega)).mp e
      subst en
      obtain ⟨g, hB⟩ := t2.bt
      rw [hM]
      unfold f_X11_lag
      by_cases c1 : p2 < 1
      · refine ⟨-1, v0, (0, v.2), rfl, by rw [if_pos c1], ?_, rfl, rfl, rfl⟩
        unfold f_X12_in
        rw [if_pos c1, bnd1_s, if_pos rfl]
      · have h0 : ¬ p2 < 0 := fun q => c1 (by
          rw [Int32.lt_iff_toInt_lt] at q ⊢
          rw [show (0 : Int32).toInt = 0 from rfl] at q
          rw [show (1 : Int32).toInt = 1 from rfl]
          omega)
        obtain ⟨l, hl, el⟩ := nI_of h0
        subst el
        have hl1 : 1 ≤ l := Nat.le_of_not_lt (fun q => c1 (nI_lt (b := 1) q (by decide)))
        have i2 : f_X12_in (nI l) 1 (nI (min 32 (n - 1))) = some (if (decide (1 ≤ l) && decide (l ≤ min 32 (n - 1))) = true then 1 else 0) := m_in2 (a := 1) (b := min 32 (n - 1)) (by decide) (by omega) hl
        rw [if_neg c1, i2, bnd1_s]
        by_cases c2 : l ≤ min 32 (n - 1)
        · rw [if_neg (show ¬ (32 : Int32) < nI l from nI_nlt (a := 32) (by omega) (by decide)), if_neg (nI_ge (by omega) (by omega)), show f_X11_loadLatest v0 (nI n) (2 : Int32) = _ from t3, bnd2_s, if_neg (show ¬ (1 : Int32) = 0 by decide), if_neg (by rw [if_pos (in_dec ⟨hl1, c2⟩)]; decide)]
          dsimp only
          rw [al_x hB hl1 (by omega), bnd1_s, al_m hB (v := (0, v.2)) rfl hl1 (by omega), bnd1_s]
          exact ⟨nI (alk g n l), (v0.1, v0.2.1, v0.2.2.1, v0.2.2.2.1, u, v0.2.2.2.2.2.1, v0.2.2.2.2.2.2.1, v0.2.2.2.2.2.2.2), (0, v.2), rfl, rfl, rfl, rfl, rfl, rfl⟩
        · refine ⟨-1, v0, (0, v.2), rfl, ?_, if_pos (by rw [if_neg (in_ndec (by omega))]), rfl, rfl, rfl⟩
          by_cases c3 : 32 < l
          · rw [if_pos (show (32 : Int32) < nI l from nI_lt (a := 32) c3 hl)]
          · rw [if_neg (show ¬ (32 : Int32) < nI l from nI_nlt (a := 32) (by omega) (by decide)), if_pos (nI_le (by omega) (by omega))]
theorem echo_loop {u : V0} {F : Nat → Int32} {n : Nat} {g : Nat → Nat} (hB : BT u F n g) {v0 : V11} (hu : v0.2.2.2.2.1 = u) {v : V12} (hv : v.2.1 = F) : ∀ (d f1 f2 k x2 : Nat), k + d = 33 → 2 ≤ k → 1 ≤ x2 → x2 < k → x2 ≤ n → d < f1 → d < f2 → ∃ r : Int32, fb_X11_echo_25 f1 v0 (nI n) (nI x2) (nI (alk g n x2)) (nI k) = some (r, v0) ∧ fb_X12_echo_20 f2 v (nI n) (nI x2) (nI k) = some (r, v) := by
  have h3 := hB.2.2.1
  intro d
  induction d with
  | zero =>
    intro f1 f2 k x2 hk h2 hx1 hx2 hxn hf1 hf2
    obtain ⟨f1, rfl⟩ : ∃ m, f1 = m + 1 := ⟨f1 - 1, by omega⟩
    obtain ⟨f2, rfl⟩ : ∃ m, f2 = m + 1 := ⟨f2 - 1, by omega⟩
    have hk : k = 33 := by omega
    subst hk
    refine ⟨nI x2, ?_, ?_⟩
    · show fl_X11_echo_25 (fb_X11_echo_25 f1) _ _ _ _ _ = _
      unfold fl_X11_echo_25
      rw [if_pos (by decide)]
    · show fl_X12_echo_20 (fb_X12_echo_20 f2) _ _ _ _ = _
      unfold fl_X12_echo_20
      rw [if_pos (by decide)]
  | succ d ih =>
    intro f1 f2 k x2 hk h2 hx1 hx2 hxn hf1 hf2
    obtain ⟨f1, rfl⟩ : ∃ m, f1 = m + 1 := ⟨f1 - 1, by omega⟩
    obtain ⟨f2, rfl⟩ : ∃ m, f2 = m + 1 := ⟨f2 - 1, by omega⟩
    show ∃ r : Int32, fl_X11_echo_25 (fb_X11_echo_25 f1) v0 (nI n) (nI x2) (nI (alk g n x2)) (nI k) = some (r, v0) ∧ fl_X12_echo_20 (fb_X12_echo_20 f2) v (nI n) (nI x2) (nI k) = some (r, v)
    unfold fl_X11_echo_25 fl_X12_echo_20
    have h32 : ¬ (32 : Int32) < nI k := nI_nlt (a := 32) (by omega) (by decide)
    rw [if_neg h32, if_neg h32]
    by_cases hn : n ≤ k
    · rw [if_pos (nI_le hn (by omega)), if_pos (nI_le hn (by omega))]
      exact ⟨_, rfl, rfl⟩
    · have a1 := alk_le g n k
      have a2 := alk_le g n x2
      have z1 : alk g n k * (n - x2) ≤ 400 * 400 := Nat.mul_le_mul (by omega) (by omega)
      have z2 : alk g n x2 * (n - k) ≤ 400 * 400 := Nat.mul_le_mul (by omega) (by omega)
      rw [if_neg (nI_ge (by omega) (by omega)), if_neg (nI_ge (by omega) (by omega)), hu, al_x hB (by omega) (by omega), bnd1_s, al_m hB hv (by omega) (by omega), bnd1_s, al_m hB hv hx1 hxn, bnd1_s, pk_sub hxn, pk_sub (by omega), pk_mul, pk_mul]
      by_cases c : alk g n k * (n - x2) ≤ alk g n x2 * (n - k)
      · rw [if_pos (nI_le c (by omega)), if_pos (nI_le c (by omega)), bnd_e, bnd_e, nI_1]
        exact ih f1 f2 (k + 1) x2 (by omega) (by omega) hx1 (by omega) hxn (by omega) (by omega)
      · rw [if_neg (nI_ge (by omega) (by omega)), if_neg (nI_ge (by omega) (by omega)), bnd_e, bnd_e, nI_1]
        exact ih f1 f2 (k + 1) k (by omega) (by omega) (by omega) (by omega) (by omega) (by omega) (by omega)
theorem q_echo {v0 : V11} {v : V12} (hQ : RQ 300 301 400 v0.1.2.2.2.2.2.1 v.2.1) (p : Int32) : ∃ (r : Int32) (u : V11) (v2 : V12), u.1 = v0.1 ∧ f_X11_echo v0 p = some (r, u) ∧ f_X12_echo v p = some (r, v2) ∧ SM v v2 := by
  unfold f_X11_echo f_X12_echo
  rcases there_rel (v := (0, v.2)) hQ p (m := 2) (Or.inr rfl) with ⟨t1, t2⟩ | ⟨n, H, u, e, t1, t2, t3, t4⟩
  · rw [show f_X11_loadLatest v0 p (2 : Int32) = _ from t1, bnd2_s, if_pos rfl, show f_X12_isThere ((0 : Int32), v.2) p (2 : Int32) = _ from t2, bnd1_s, if_pos rfl]
    exact ⟨-1, (v0.1, v0.2.1, v0.2.2.1, v0.2.2.2.1, v0.2.2.2.2.1, v0.2.2.2.2.2.1, v0.2.2.2.2.2.2.1, v0.2.2.2.2.2.2.2), (0, v.2), rfl, rfl, rfl, rfl, rfl, rfl⟩
  · rw [show f_X11_loadLatest v0 p (2 : Int32) = _ from t3, bnd2_s, if_neg (show ¬ (1 : Int32) = 0 by decide), show f_X12_isThere ((0 : Int32), v.2) p (2 : Int32) = _ from t4, bnd1_s, if_neg (show ¬ (1 : Int32) = 0 by decide), e]
    obtain ⟨g, hB⟩ := t2.bt
    dsimp only
    rw [show f_X0_alikeAt u (1 : Int32) = _ from al_x hB (l := 1) (by omega) (by omega), bnd1_s]
    obtain ⟨r, r1, r2⟩ := echo_loop hB (v0 := (v0.1, v0.2.1, v0.2.2.1, v0.2.2.2.1, u, v0.2.2.2.2.2.1, v0.2.2.2.2.2.2.1, v0.2.2.2.2.2.2.2)) rfl (v := (0, v.2)) rfl 31 FU FU 2 1 (by omega) (by omega) (by omega) (by omega) (by omega) (by decide) (by decide)
    exact ⟨r, (v0.1, v0.2.1, v0.2.2.1, v0.2.2.2.1, u, v0.2.2.2.2.2.1, v0.2.2.2.2.2.2.1, v0.2.2.2.2.2.2.2), (0, v.2), rfl, r1, r2, rfl, rfl, rfl⟩
end LG
end mp_65_lg
section mp_66_lo
section LO
theorem sub1 (a b : Int32) : a - (b + 1) + 1 = a - b := by
  rw [Int32.sub_eq_add_neg, Int32.neg_add, Int32.add_assoc, Int32.sub_add_cancel, ← Int32.sub_eq_add_neg]
theorem long_loop {u : V0} {F : Nat → Int32} {n H : Nat} {g : Nat → Nat} (hB : BT u F n g) (hH : H ≤ 400) (hnH : n ≤ H) (h300 : F 300 = nI H) {v : V12} (hv : v.2.1 = F) (p2 : Int32) : ∀ (d f1 f2 k st best bst : Nat), k + d = n → st < k → g (k - 1) = g st → 1 ≤ best → best ≤ 400 → bst ≤ k → d < f1 → d < f2 → ∃ b2 s2 : Nat, fb_X0_measureLongest_14 f1 (u.1, u.2.1, u.2.2.1, nI best, nI bst) (nI st) (nI k) = some (u.1, u.2.1, u.2.2.1, nI b2, nI s2) ∧ fb_X12_longest_27 f2 v (nI n) p2 (nI best) (nI (H - n + bst)) (nI (k - st)) (nI k) = some ((if p2 = 0 then nI b2 else nI (H - n + s2)), v) := by
  obtain ⟨h1, h2, h3, h4, h5⟩ := hB
  intro d
  induction d with
  | zero =>
    intro f1 f2 k st best bst hk hst hgs hb1 hb4 hbk hf1 hf2
    obtain ⟨f1, rfl⟩ : ∃ m, f1 = m + 1 := ⟨f1 - 1, by omega⟩
    obtain ⟨f2, rfl⟩ : ∃ m, f2 = m + 1 := ⟨f2 - 1, by omega⟩
    refine ⟨best, bst, ?_, ?_⟩
    · show fl_X0_measureLongest_14 (fb_X0_measureLongest_14 f1) _ _ _ = _
      unfold fl_X0_measureLongest_14
      dsimp only
      rw [h1, if_pos (nI_le (by omega) (by omega))]
    · show fl_X12_longest_27 (fb_X12_longest_27 f2) _ _ _ _ _ _ _ = _
      unfold fl_X12_longest_27
      rw [if_pos (nI_le (by omega) (by omega))]
      by_cases hp : p2 = 0
      · rw [if_pos hp, if_pos hp]
      · rw [if_neg hp, if_neg hp]
  | succ d ih =>
    intro f1 f2 k st best bst hk hst hgs hb1 hb4 hbk hf1 hf2
    obtain ⟨f1, rfl⟩ : ∃ m, f1 = m + 1 := ⟨f1 - 1, by omega⟩
    obtain ⟨f2, rfl⟩ : ∃ m, f2 = m + 1 := ⟨f2 - 1, by omega⟩
    obtain ⟨g1, g2⟩ := h4 k (by omega)
    obtain ⟨g3, g4⟩ := h4 st (by omega)
    obtain ⟨g5, g6⟩ := h4 (k - 1) (by omega)
    show ∃ b2 s2 : Nat, fl_X0_measureLongest_14 (fb_X0_measureLongest_14 f1) (u.1, u.2.1, u.2.2.1, nI best, nI bst) (nI st) (nI k) = some (u.1, u.2.1, u.2.2.1, nI b2, nI s2) ∧ fl_X12_longest_27 (fb_X12_longest_27 f2) v (nI n) p2 (nI best) (nI (H - n + bst)) (nI (k - st)) (nI k) = some ((if p2 = 0 then nI b2 else nI (H - n + s2)), v)
    unfold fl_X0_measureLongest_14 fl_X12_longest_27
    dsimp only
    rw [h1, if_neg (nI_ge (by omega) (by omega)), if_neg (n400 (by omega)), chk_nI (by omega) (by decide), chk_nI (by omega) (by decide), nI_clamp (n := k) (by omega), nI_clamp (n := st) (by omega), if_neg (nI_ge (show k < n by omega) (by omega)), if_neg (nI_nle (by omega) (by omega)), h5 v hv k (by omega), bnd1_s, show nI k - (1 : Int32) = nI (k - 1) from pk_sub (b := 1) (by omega), h5 v hv (k - 1) (by omega), bnd1_s]
    unfold fc_X0_measureLongest_46 fc_X12_longest_64 fc_X12_longest_65
    dsimp only
    by_cases e : g k = g st
    · rw [if_pos (show u.1 k = u.1 st by rw [g2, g4, e]), if_pos (show nI (g k) = nI (g (k - 1)) by rw [hgs, e]), pk_sub (by omega), nI_1]
      by_cases c : k - st + 1 ≤ best
      · rw [if_pos (nI_le c (by omega)), if_pos (nI_le c (by omega)), bnd_e, bnd_e, nI_1]
        have := ih f1 f2 (k + 1) st best bst (by omega) (by omega) (by rw [show k + 1 - 1 = k by omega]; exact e) hb1 hb4 (by omega) (by omega) (by omega)
        rw [show k + 1 - st = k - st + 1 by omega] at this
        rw [h1] at this
        exact this
      · rw [if_neg (nI_ge (by omega) (by omega)), if_neg (nI_ge (by omega) (by omega)), bnd_e, bnd_e, chk_in (show vp_in (300 : Int32) 4725 by unfold vp_in; decide), show ((300 : Int32)).toNatClampNeg = 300 from rfl, hv, h300, bnd_e, bnd_e, pk_sub hnH, nI_add, ← nI_1 (k - st), sub1, pk_sub (by omega), nI_1, nI_1]
        have := ih f1 f2 (k + 1) st (k - st + 1) st (by omega) (by omega) (by rw [show k + 1 - 1 = k by omega]; exact e) (by omega) (by omega) (by omega) (by omega) (by omega)
        rw [show k + 1 - st = k - st + 1 by omega] at this
        rw [show H - n + k - (k - st) = H - n + st by omega]
        rw [h1] at this
        exact this
    · rw [if_neg (show ¬ u.1 k = u.1 st by rw [g2, g4]; exact fun q => e ((nI_eq (by omega) (by omega)).mp q)), if_neg (show ¬ nI (g k) = nI (g (k - 1)) by rw [hgs]; exact fun q => e ((nI_eq (by omega) (by omega)).mp q)), pk_sub (Nat.le_refl k), nI_1, if_pos (nI_le (show k - k + 1 ≤ best by omega) (by omega)), if_pos (show (1 : Int32) ≤ nI best from nI_le (a := 1) hb1 (by omega)), bnd_e, bnd_e, nI_1]
      have := ih f1 f2 (k + 1) k best bst (by omega) (by omega) (by rw [show k + 1 - 1 = k by omega]) hb1 hb4 (by omega) (by omega) (by omega)
      rw [show k + 1 - k = 1 by omega, h1] at this
      exact this
theorem q_longest {v0 : V11} {v : V12} (hQ : RQ 300 301 400 v0.1.2.2.2.2.2.1 v.2.1) (p1 p2 : Int32) : ∃ (r : Int32) (u : V11) (v2 : V12), u.1 = v0.1 ∧ f_X11_longest v0 p1 p2 = some (r, u) ∧ f_X12_longest v p1 p2 = some (r, v2) ∧ SM v v2 := by
  unfold f_X11_longest f_X12_longest
  rcases there_rel (v := (0, v.2)) hQ p1 (m := 1) (Or.inl rfl) with ⟨t1, t2⟩ | ⟨n, H, u, e, t1, t2, t3, t4⟩
  · rw [show f_X11_loadLatest v0 p1 (1 : Int32) = _ from t1, bnd2_s, if_pos rfl, show f_X12_isThere ((0 : Int32), v.2) p1 (1 : Int32) = _ from t2, bnd1_s, if_pos rfl]
    exact ⟨-1, (v0.1, v0.2.1, v0.2.2.1, v0.2.2.2.1, v0.2.2.2.2.1, v0.2.2.2.2.2.1, v0.2.2.2.2.2.2.1, v0.2.2.2.2.2.2.2), (0, v.2), rfl, rfl, rfl, rfl, rfl, rfl⟩
  · rw [show f_X11_loadLatest v0 p1 (1 : Int32) = _ from t3, bnd2_s, if_neg (show ¬ (1 : Int32) = 0 by decide), show f_X12_isThere ((0 : Int32), v.2) p1 (1 : Int32) = _ from t4, bnd1_s, if_neg (show ¬ (1 : Int32) = 0 by decide), e]
    obtain ⟨g, hB⟩ := t2.bt
    have hB0 := hB
    obtain ⟨-, d2, d3, d4, d5, -⟩ := t2
    obtain ⟨h1, h2, h3, h4, h5⟩ := hB0
    have hlen : v0.1.2.2.2.2.2.1.2.2 = nI H := by
      obtain ⟨n', h', -, -, q3, -, q5, -⟩ := hQ
      rw [q3, ← q5]; exact d5
    obtain ⟨b2, s2, r1, r2⟩ := long_loop hB d4 d3 d5 (v := (0, v.2)) rfl p2 (n - 1) 8589934591 8589934591 1 0 1 0 (by omega) (by omega) rfl (by omega) (by omega) (by omega) (by omega) (by omega)
    have hX : f_X0_measureLongest u = some (u.1, u.2.1, u.2.2.1, nI b2, nI s2) := by
      refine Eq.trans ?_ r1
      show fl_X0_measureLongest_14 (fb_X0_measureLongest_14 8589934591) (u.1, u.2.1, u.2.2.1, nI 0, nI 0) (nI 0) (nI 0) = _
      unfold fl_X0_measureLongest_14 fc_X0_measureLongest_46
      dsimp only
      rw [h1, if_neg (nI_ge (by omega) (by omega)), if_neg (n400 (by omega)), chk_nI (by omega) (by decide), chk_nI (by omega) (by decide), if_pos rfl, if_neg (by decide), bnd_e, bnd_e]
      rfl
    have hM : fb_X12_longest_27 FU (0, v.2) (nI n) p2 0 0 0 0 = some ((if p2 = 0 then nI b2 else nI (H - n + s2)), (0, v.2)) := by
      refine Eq.trans ?_ r2
      show fl_X12_longest_27 (fb_X12_longest_27 8589934591) (0, v.2) (nI n) p2 (nI 0) (nI 0) (nI 0) (nI 0) = _
      unfold fl_X12_longest_27 fc_X12_longest_64 fc_X12_longest_65
      rw [if_neg (nI_ge (by omega) (by omega)), if_pos (by decide), if_neg (by decide), chk_in (show vp_in (300 : Int32) 4725 by unfold vp_in; decide), show ((300 : Int32)).toNatClampNeg = 300 from rfl]
      dsimp only
      rw [show v.2.1 300 = nI H from d5, bnd_e, bnd_e, pk_sub d3, nI_add, show nI (H - n + 0) - (1 : Int32) + 1 = nI (H - n + 0) from Int32.sub_add_cancel _ _]
      rfl
    rw [hM]
    dsimp only
    rw [hX, bnd1_s, hlen]
    by_cases hp : p2 = 0
    · rw [if_pos hp, if_pos hp]
      exact ⟨nI b2, (v0.1, v0.2.1, v0.2.2.1, v0.2.2.2.1, (u.1, u.2.1, u.2.2.1, nI b2, nI s2), v0.2.2.2.2.2.1, v0.2.2.2.2.2.2.1, v0.2.2.2.2.2.2.2), (0, v.2), rfl, rfl, rfl, rfl, rfl, rfl⟩
    · rw [if_neg hp, if_neg hp]
      refine ⟨nI (H - n + s2), (v0.1, v0.2.1, v0.2.2.1, v0.2.2.2.1, (u.1, u.2.1, u.2.2.1, nI b2, nI s2), v0.2.2.2.2.2.1, v0.2.2.2.2.2.2.1, v0.2.2.2.2.2.2.2), (0, v.2), rfl, ?_, rfl, rfl, rfl, rfl⟩
      show some (nI H - nI n + nI s2, _) = _
      rw [pk_sub d3, nI_add]
end LO
end mp_66_lo
section mp_67_tu
section TU
/-- the reference with other counts -/
def sC (v : V12) (D : Nat → Int32) : V12 := (v.1, v.2.1, v.2.2.1, v.2.2.2.1, v.2.2.2.2.1, v.2.2.2.2.2.1, v.2.2.2.2.2.2.1, v.2.2.2.2.2.2.2.1, v.2.2.2.2.2.2.2.2.1, v.2.2.2.2.2.2.2.2.2.1, v.2.2.2.2.2.2.2.2.2.2.1, v.2.2.2.2.2.2.2.2.2.2.2.1, v.2.2.2.2.2.2.2.2.2.2.2.2.1, v.2.2.2.2.2.2.2.2.2.2.2.2.2.1, v.2.2.2.2.2.2.2.2.2.2.2.2.2.2.1, v.2.2.2.2.2.2.2.2.2.2.2.2.2.2.2.1, v.2.2.2.2.2.2.2.2.2.2.2.2.2.2.2.2.1, v.2.2.2.2.2.2.2.2.2.2.2.2.2.2.2.2.2.1, v.2.2.2.2.2.2.2.2.2.2.2.2.2.2.2.2.2.2.1, v.2.2.2.2.2.2.2.2.2.2.2.2.2.2.2.2.2.2.2.1, v.2.2.2.2.2.2.2.2.2.2.2.2.2.2.2.2.2.2.2.2.1, D)
/-- bits as a number -/
def bvs (g : Nat → Nat) : Nat → Nat → Nat → Nat
  | 0, _, a => a
  | d + 1, j, a => bvs g d (j + 1) (2 * a + g j)
theorem bvs_app (g : Nat → Nat) (e_ : Nat) : ∀ d j a, bvs g (d + e_) j a = bvs g e_ (j + d) (bvs g d j a)
  | 0, j, a => by rw [Nat.zero_add, Nat.add_zero]; rfl
  | d + 1, j, a => by
    rw [show d + 1 + e_ = (d + e_) + 1 by omega]
    show bvs g (d + e_) (j + 1) (2 * a + g j) = bvs g e_ (j + (d + 1)) (bvs g d (j + 1) (2 * a + g j))
    rw [bvs_app g e_ d (j + 1) (2 * a + g j), show j + 1 + d = j + (d + 1) by omega]
theorem bvs_add (g : Nat → Nat) : ∀ d j a, bvs g d j a = a * 2 ^ d + bvs g d j 0
  | 0, j, a => by show a = a * 1 + 0; omega
  | d + 1, j, a => by
    show bvs g d (j + 1) (2 * a + g j) = a * 2 ^ (d + 1) + bvs g d (j + 1) (2 * 0 + g j)
    rw [bvs_add g d (j + 1) (2 * a + g j), bvs_add g d (j + 1) (2 * 0 + g j), Nat.pow_succ, Nat.add_mul, Nat.add_mul, Nat.mul_zero, Nat.zero_mul, Nat.zero_add, Nat.mul_comm 2 a, Nat.mul_assoc, Nat.mul_comm 2 (2 ^ d), Nat.add_assoc]
theorem bvs_lt {g : Nat → Nat} : ∀ d j, (∀ i, i < d → g (j + i) ≤ 1) → bvs g d j 0 < 2 ^ d
  | 0, j, _ => by show 0 < 1; omega
  | d + 1, j, h => by
    show bvs g d (j + 1) (2 * 0 + g j) < 2 ^ (d + 1)
    have h1 := bvs_lt d (j + 1) (fun i hi => by rw [show j + 1 + i = j + (i + 1) by omega]; exact h (i + 1) (by omega))
    have h2 := h 0 (by omega)
    rw [Nat.add_zero] at h2
    rw [bvs_add g d (j + 1) (2 * 0 + g j), Nat.pow_succ]
    have : (2 * 0 + g j) * 2 ^ d ≤ 1 * 2 ^ d := Nat.mul_le_mul_right _ (by omega)
    omega
theorem bvs_1 (g : Nat → Nat) (k : Nat) : bvs g (k + 1) 0 0 = 2 * bvs g k 0 0 + g k := by
  rw [bvs_app g 1 k 0 0, Nat.zero_add]
  rfl
theorem bvs_mod {g : Nat → Nat} (l k : Nat) : (2 * (bvs g k 0 0 % 2 ^ l) + g k) % 2 ^ l = bvs g (k + 1) 0 0 % 2 ^ l := by
  rw [bvs_1, ← Nat.mod_add_mod (2 * (bvs g k 0 0 % 2 ^ l)), Nat.mul_mod_mod, Nat.mod_add_mod]
theorem bvs_win {g : Nat → Nat} {l j : Nat} (h : ∀ i, i < l → g (j + i) ≤ 1) : bvs g (j + l) 0 0 % 2 ^ l = bvs g l j 0 := by
  rw [bvs_app g l j 0 0, Nat.zero_add, bvs_add g l j (bvs g j 0 0), Nat.mul_comm, Nat.mul_add_mod, Nat.mod_eq_of_lt (bvs_lt l j h)]
theorem st_ev : ∀ l, l < 9 → ∀ X, X < 256 → ∀ b, b < 2 → X < 2 ^ l → (((nI X <<< ((1 : Int32) &&& 31)) ||| nI b) &&& nI (2 ^ l - 1)) = nI ((2 * X + b) % 2 ^ l) := by decide +kernel
theorem mk_ev : ∀ l, l < 9 → ((((1 : Int32) <<< (nI l &&& 31)) - (1 : Int32)) &&& (255 : Int32)) = nI (2 ^ l - 1) := by decide +kernel
theorem x_fill0 : ∀ (d fu k : Nat) (C : Nat → Int32), k + d = 256 → d < fu → ∃ C2 : Nat → Int32, fb_J7_fill_53178_5 256 fu C 0 (nI k) (nI 256) = some C2 ∧ (∀ j, k ≤ j → j < 256 → C2 j = 0) ∧ ∀ j, j < k → C2 j = C j := by
  intro d
  induction d with
  | zero =>
    intro fu k C hk hf
    obtain ⟨fu, rfl⟩ : ∃ m, fu = m + 1 := ⟨fu - 1, by omega⟩
    refine ⟨C, ?_, fun j h1 h2 => absurd h1 (by omega), fun j _ => rfl⟩
    show fl_J7_fill_53178_5 256 (fb_J7_fill_53178_5 256 fu) _ _ _ _ = _
    unfold fl_J7_fill_53178_5
    rw [if_pos (nI_le (by omega) (by omega))]
  | succ d ih =>
    intro fu k C hk hf
    obtain ⟨fu, rfl⟩ : ∃ m, fu = m + 1 := ⟨fu - 1, by omega⟩
    obtain ⟨C2, i1, i2, i3⟩ := ih fu (k + 1) (upd C k 0) (by omega) (by omega)
    refine ⟨C2, ?_, fun j h1 h2 => ?_, fun j hj => by rw [i3 j (by omega), upd_n (by omega)]⟩
    · refine Eq.trans ?_ i1
      show fl_J7_fill_53178_5 256 (fb_J7_fill_53178_5 256 fu) _ _ _ _ = _
      unfold fl_J7_fill_53178_5
      rw [if_neg (nI_ge (by omega) (by omega)), chk_nI (by omega) (by decide), bnd_e, bnd_e, nI_1, nI_clamp (by omega)]
    · by_cases e : j = k
      · subst e; rw [i3 j (by omega), upd_s]
      · exact i2 j (by omega) h2
theorem m_zero (n l : Int32) : ∀ (d fu k : Nat) (v : V12) (D : Nat → Int32), k + d = 256 → d < fu → (∀ j, j < k → D j = 0) → ∃ D2 : Nat → Int32, fb_X12_mostTuple_2 fu (sC v D) n l (nI k) = fb_X12_mostTuple_27 FU (sC v D2) n l 0 0 ∧ ∀ j, j < 256 → D2 j = 0 := by
  intro d
  induction d with
  | zero =>
    intro fu k v D hk hf h0
    obtain ⟨fu, rfl⟩ : ∃ m, fu = m + 1 := ⟨fu - 1, by omega⟩
    refine ⟨D, ?_, fun j hj => h0 j (by omega)⟩
    show fl_X12_mostTuple_2 (fb_X12_mostTuple_2 fu) _ _ _ _ = _
    unfold fl_X12_mostTuple_2
    rw [if_pos (show (256 : Int32) ≤ nI k from nI_le (a := 256) (by omega) (by omega))]
  | succ d ih =>
    intro fu k v D hk hf h0
    obtain ⟨fu, rfl⟩ : ∃ m, fu = m + 1 := ⟨fu - 1, by omega⟩
    obtain ⟨D2, i1, i2⟩ := ih fu (k + 1) v (upd D k 0) (by omega) (by omega) (fun j hj => by
      by_cases e : j = k
      · rw [e]; exact upd_s _ _ _
      · rw [upd_n e]; exact h0 j (by omega))
    refine ⟨D2, ?_, i2⟩
    refine Eq.trans ?_ i1
    show fl_X12_mostTuple_2 (fb_X12_mostTuple_2 fu) _ _ _ _ = _
    unfold fl_X12_mostTuple_2
    rw [if_neg (show ¬ (256 : Int32) ≤ nI k from nI_ge (b := 256) (by omega) (by decide)), chk_nI (by omega) (by decide), bnd_e, bnd_e, nI_1, nI_clamp (by omega)]
    rfl
theorem tu_inner (k27 : V12 → Int32 → Int32 → Int32 → Int32 → Option (Int32 × V12)) {u : V0} {F : Nat → Int32} {n : Nat} {g : Nat → Nat} (hB : BT u F n g) {w : V12} (hw : w.2.1 = F) {j l : Nat} (hj : j + l ≤ n) (x3 : Int32) : ∀ (d fu i a : Nat), i + d = l → d < fu → fb_X12_mostTuple_41 k27 fu w (nI n) (nI l) x3 (nI j) (nI a) (nI i) = fb_X12_mostTuple_41 k27 1 w (nI n) (nI l) x3 (nI j) (nI (bvs g d (j + i) a)) (nI l) := by
  obtain ⟨h1, h2, h3, h4, h5⟩ := hB
  intro d
  induction d with
  | zero =>
    intro fu i a hi hf
    obtain ⟨fu, rfl⟩ : ∃ m, fu = m + 1 := ⟨fu - 1, by omega⟩
    have hi : i = l := by omega
    subst hi
    show fl_X12_mostTuple_41 k27 (fb_X12_mostTuple_41 k27 fu) _ _ _ _ _ _ _ = fl_X12_mostTuple_41 k27 (fb_X12_mostTuple_41 k27 0) _ _ _ _ _ _ _
    unfold fl_X12_mostTuple_41
    rw [if_pos (nI_le (Nat.le_refl _) (by omega)), if_pos (nI_le (Nat.le_refl _) (by omega))]
    rfl
  | succ d ih =>
    intro fu i a hi hf
    obtain ⟨fu, rfl⟩ : ∃ m, fu = m + 1 := ⟨fu - 1, by omega⟩
    have ih := ih fu (i + 1) (2 * a + g (j + i)) (by omega) (by omega)
    refine Eq.trans ?_ ih
    show fl_X12_mostTuple_41 k27 (fb_X12_mostTuple_41 k27 fu) _ _ _ _ _ _ _ = _
    unfold fl_X12_mostTuple_41
    rw [if_neg (nI_ge (by omega) (by omega)), nI_add, h5 w hw (j + i) (by omega), bnd1_s, show (2 : Int32) * nI a = nI (2 * a) from pk_mul 2 a, nI_add, bnd_e, bnd_e, nI_1]
theorem tu_loop {u : V0} {F : Nat → Int32} {n : Nat} {g : Nat → Nat} (hB : BT u F n g) {v : V12} (hv : v.2.1 = F) {l : Nat} (hl1 : 1 ≤ l) (hl8 : l ≤ 8) (hln : l ≤ n) : ∀ (d f1 f2 j bm : Nat) (C D : Nat → Int32) (c : Nat → Nat), j + d = n - l + 1 → d < f1 → d < f2 → (∀ x, x < 256 → C x = nI (c x) ∧ D x = nI (c x) ∧ c x ≤ j) → bm ≤ j → ∃ (r : Nat) (C2 D2 : Nat → Int32), r ≤ 400 ∧ fb_X0_mostOften_26 f1 (u.1, C, u.2.2) (nI l) (nI (2 ^ l - 1)) (nI (bvs g (l - 1 + j) 0 0 % 2 ^ l)) (nI bm) (nI (l - 1 + j)) = some (nI r, (u.1, C2, u.2.2)) ∧ fb_X12_mostTuple_27 f2 (sC v D) (nI n) (nI l) (nI bm) (nI j) = some (nI r, sC v D2) := by
  have hB0 := hB
  obtain ⟨h1, h2, h3, h4, h5⟩ := hB
  have hp : 2 ^ l ≤ 2 ^ 8 := Nat.pow_le_pow_right (by decide) hl8
  have hp0 : 0 < 2 ^ l := Nat.pow_pos (by decide)
  intro d
  induction d with
  | zero =>
    intro f1 f2 j bm C D c hj hf1 hf2 hc hbm
    obtain ⟨f1, rfl⟩ : ∃ m, f1 = m + 1 := ⟨f1 - 1, by omega⟩
    obtain ⟨f2, rfl⟩ : ∃ m, f2 = m + 1 := ⟨f2 - 1, by omega⟩
    refine ⟨bm, C, D, by omega, ?_, ?_⟩
    · show fl_X0_mostOften_26 (fb_X0_mostOften_26 f1) _ _ _ _ _ _ = _
      unfold fl_X0_mostOften_26
      dsimp only
      rw [h1, if_pos (nI_le (by omega) (by omega))]
    · show fl_X12_mostTuple_27 (fb_X12_mostTuple_27 f2) _ _ _ _ _ = _
      unfold fl_X12_mostTuple_27
      rw [nI_add, if_pos (nI_lt (by omega) (by omega))]
  | succ d ih =>
    intro f1 f2 j bm C D c hj hf1 hf2 hc hbm
    obtain ⟨f1, rfl⟩ : ∃ m, f1 = m + 1 := ⟨f1 - 1, by omega⟩
    obtain ⟨f2, rfl⟩ : ∃ m, f2 = m + 1 := ⟨f2 - 1, by omega⟩
    obtain ⟨g1, g2⟩ := h4 (l - 1 + j) (by omega)
    have hbit : ∀ i, i < l → g (j + i) ≤ 1 := fun i hi => (h4 (j + i) (by omega)).1
    have hx := bvs_lt l j hbit
    have hwin : bvs g (l - 1 + j + 1) 0 0 % 2 ^ l = bvs g l j 0 := by
      rw [show l - 1 + j + 1 = j + l by omega]
      exact bvs_win hbit
    obtain ⟨c1, c2, c3⟩ := hc (bvs g l j 0) (by omega)
    obtain ⟨r, C2, D2, r1, r2, r3⟩ := ih f1 f2 (j + 1) (max bm (c (bvs g l j 0) + 1)) (upd C (bvs g l j 0) (nI (c (bvs g l j 0) + 1))) (upd D (bvs g l j 0) (nI (c (bvs g l j 0) + 1))) (fun x => if x = bvs g l j 0 then c (bvs g l j 0) + 1 else c x) (by omega) (by omega) (by omega) (fun x hx => by
      obtain ⟨e1, e2, e3⟩ := hc x hx
      by_cases e : x = bvs g l j 0
      · rw [if_pos e, e, upd_s, upd_s]
        exact ⟨rfl, rfl, by omega⟩
      · rw [if_neg e, upd_n e, upd_n e]
        exact ⟨e1, e2, by omega⟩) (by omega)
    refine ⟨r, C2, D2, r1, ?_, ?_⟩
    · refine Eq.trans ?_ r2
      show fl_X0_mostOften_26 (fb_X0_mostOften_26 f1) _ _ _ _ _ _ = _
      unfold fl_X0_mostOften_26
      dsimp only
      have hm : bvs g (l - 1 + j) 0 0 % 2 ^ l < 2 ^ l := Nat.mod_lt _ hp0
      rw [h1, if_neg (nI_ge (by omega) (by omega)), if_neg (n400 (by omega)), chk_nI (by omega) (by decide), nI_clamp (n := l - 1 + j) (by omega), g2, st_ev l (by omega) _ (by omega) _ (by omega) hm, bvs_mod, hwin, bnd_e, show nI l - (1 : Int32) = nI (l - 1) from pk_sub (b := 1) hl1, if_neg (nI_nlt (by omega) (by omega)), chk_nI (by omega) (by decide), chk_nI (by omega) (by decide), bnd_e, chk_nI (by omega) (by decide), nI_clamp (n := bvs g l j 0) (by omega), upd_s, c1, nI_1, mx_j (by omega) (by omega), bnd_e, bnd_e, nI_1, show l - 1 + j + 1 = l - 1 + (j + 1) by omega, ← hwin, show l - 1 + j + 1 = l - 1 + (j + 1) by omega]
    · refine Eq.trans ?_ r3
      show fl_X12_mostTuple_27 (fb_X12_mostTuple_27 f2) _ _ _ _ _ = _
      unfold fl_X12_mostTuple_27
      rw [nI_add, if_neg (nI_nlt (by omega) (by omega)), show fb_X12_mostTuple_41 (fb_X12_mostTuple_27 f2) FU (sC v D) (nI n) (nI l) (nI bm) (nI j) (0 : Int32) (0 : Int32) = _ from tu_inner (fb_X12_mostTuple_27 f2) hB0 (w := sC v D) hv (by omega) (nI bm) l FU 0 0 (by omega) (by show l < 8589934592; omega), Nat.add_zero]
      show fl_X12_mostTuple_41 (fb_X12_mostTuple_27 f2) (fb_X12_mostTuple_41 (fb_X12_mostTuple_27 f2) 0) _ _ _ _ _ _ _ = _
      unfold fl_X12_mostTuple_41
      have hD : (sC v D).2.2.2.2.2.2.2.2.2.2.2.2.2.2.2.2.2.2.2.2.2 = D := rfl
      rw [if_pos (nI_le (Nat.le_refl _) (by omega)), chk_nI (by omega) (by decide), chk_nI (by omega) (by decide), bnd_e, chk_nI (by omega) (by decide), nI_clamp (n := bvs g l j 0) (by omega), hD, upd_s, c2, nI_1, mx_g (by omega) (by omega), bnd1_s, bnd_e, nI_1]
      rfl
theorem tu_pre {u : V0} {F : Nat → Int32} {n : Nat} {g : Nat → Nat} (hB : BT u F n g) {l : Nat} (hl1 : 1 ≤ l) (hl8 : l ≤ 8) (hln : l ≤ n) (C : Nat → Int32) (x4 : Int32) (fu : Nat) : ∀ (d k : Nat), k + d = l - 1 → fb_X0_mostOften_26 (d + fu) (u.1, C, u.2.2) (nI l) (nI (2 ^ l - 1)) (nI (bvs g k 0 0 % 2 ^ l)) x4 (nI k) = fb_X0_mostOften_26 fu (u.1, C, u.2.2) (nI l) (nI (2 ^ l - 1)) (nI (bvs g (l - 1) 0 0 % 2 ^ l)) x4 (nI (l - 1)) := by
  obtain ⟨h1, h2, h3, h4, h5⟩ := hB
  have hp : 2 ^ l ≤ 2 ^ 8 := Nat.pow_le_pow_right (by decide) hl8
  have hp0 : 0 < 2 ^ l := Nat.pow_pos (by decide)
  intro d
  induction d with
  | zero =>
    intro k hk
    rw [show k = l - 1 by omega, Nat.zero_add]
  | succ d ih =>
    intro k hk
    rw [show d + 1 + fu = (d + fu) + 1 by omega]
    obtain ⟨g1, g2⟩ := h4 k (by omega)
    refine Eq.trans ?_ (ih (k + 1) (by omega))
    show fl_X0_mostOften_26 (fb_X0_mostOften_26 (d + fu)) _ _ _ _ _ _ = _
    unfold fl_X0_mostOften_26
    dsimp only
    have hm : bvs g k 0 0 % 2 ^ l < 2 ^ l := Nat.mod_lt _ hp0
    rw [h1, if_neg (nI_ge (by omega) (by omega)), if_neg (n400 (by omega)), chk_nI (by omega) (by decide), nI_clamp (n := k) (by omega), g2, st_ev l (by omega) _ (by omega) _ (by omega) hm, bvs_mod, bnd_e, show nI l - (1 : Int32) = nI (l - 1) from pk_sub (b := 1) hl1, if_pos (nI_lt (by omega) (by omega)), bnd_e, nI_1]
theorem often_rel {u : V0} {F : Nat → Int32} {n : Nat} {g : Nat → Nat} (hB : BT u F n g) {v : V12} (hv : v.2.1 = F) {l : Nat} (hl1 : 1 ≤ l) (hl8 : l ≤ 8) (hln : l ≤ n) : ∃ (r : Nat) (C2 D2 : Nat → Int32), r ≤ 400 ∧ f_X0_mostOften u (nI l) = some (nI r, (u.1, C2, u.2.2)) ∧ f_X12_mostTuple v (nI n) (nI l) = some (nI r, sC v D2) := by
  have h3 := hB.2.2.1
  obtain ⟨C, c1, c2, -⟩ := x_fill0 256 FU 0 u.2.1 (by omega) (by decide)
  obtain ⟨D, d1, d2⟩ := m_zero (nI n) (nI l) 256 FU 0 v v.2.2.2.2.2.2.2.2.2.2.2.2.2.2.2.2.2.2.2.2.2 (by omega) (by decide) (fun j hj => absurd hj (by omega))
  obtain ⟨r, C2, D2, r1, r2, r3⟩ := tu_loop hB hv hl1 hl8 hln (n - l + 1) (FU - (l - 1)) FU 0 0 C D (fun _ => 0) (by omega) (by show n - l + 1 < 8589934592 - (l - 1); omega) (by show n - l + 1 < 8589934592; omega) (fun x hx => ⟨c2 x (by omega) hx, d2 x hx, Nat.le_refl _⟩) (Nat.le_refl _)
  refine ⟨r, C2, D2, r1, ?_, ?_⟩
  · unfold f_X0_mostOften f_J7_fill_53178
    rw [bnd_e, show fb_J7_fill_53178_5 256 FU u.2.1 (0 : Int32) (0 : Int32) (Int32.ofNat 256) = _ from c1, bnd1_s, mk_ev l (by omega), bnd_e]
    have hpre := tu_pre hB hl1 hl8 hln C (nI 0) (FU - (l - 1)) (l - 1) 0 (by omega)
    have hF : l - 1 + (FU - (l - 1)) = FU := by
      show l - 1 + (8589934592 - (l - 1)) = 8589934592
      omega
    rw [hF, show bvs g 0 0 0 = 0 from rfl, Nat.zero_mod] at hpre
    rw [Nat.add_zero] at r2
    exact hpre.trans r2
  · exact Eq.trans d1 r3
theorem tup_rel {v0 : V11} {v : V12} (hQ : RQ 300 301 400 v0.1.2.2.2.2.2.1 v.2.1) (p1 p2 : Int32) : (∃ u : V11, u.1 = v0.1 ∧ f_X11_loadTuples v0 p1 p2 = some (0, u) ∧ f_X12_isTuple v p1 p2 = some 0) ∨ ∃ (n l H : Nat) (u : V0), p1 = nI n ∧ p2 = nI l ∧ 1 ≤ l ∧ l ≤ 8 ∧ l ≤ n ∧ LD u v.2.1 H n ∧ f_X11_loadTuples v0 p1 p2 = some (1, (v0.1, v0.2.1, v0.2.2.1, v0.2.2.2.1, u, v0.2.2.2.2.2.1, v0.2.2.2.2.2.2.1, v0.2.2.2.2.2.2.2)) ∧ f_X12_isTuple v p1 p2 = some 1 := by
  unfold f_X11_loadTuples f_X12_isTuple
  rcases there_rel hQ p1 (m := 1) (Or.inl rfl) with ⟨t1, t2⟩ | ⟨n, H, u, e, t1, t2, t3, t4⟩
  · left
    rw [show f_X11_loadLatest v0 p1 (1 : Int32) = _ from t1, show f_X12_isThere v p1 (1 : Int32) = _ from t2, bnd1_s, if_pos rfl, bnd2_s, if_pos rfl]
    by_cases c1 : p2 < 1
    · exact ⟨v0, rfl, if_pos c1, rfl⟩
    · rw [if_neg c1]
      by_cases c2 : 8 < p2
      · exact ⟨v0, rfl, if_pos c2, rfl⟩
      · rw [if_neg c2]
        by_cases c3 : p1 < p2
        · exact ⟨v0, rfl, if_pos c3, rfl⟩
        · exact ⟨(v0.1, v0.2.1, v0.2.2.1, v0.2.2.2.1, v0.2.2.2.2.1, v0.2.2.2.2.2.1, v0.2.2.2.2.2.2.1, v0.2.2.2.2.2.2.2), rfl, if_neg c3, rfl⟩
  · subst e
    have hn4 : n ≤ 400 := by have := t2.2.2.1; have := t2.2.2.2.1; omega
    have hle : f_X12_lesser 8 (nI n) = some (nI (min 8 n)) := by
      unfold f_X12_lesser
      by_cases h : n ≤ 8
      · rw [if_pos (show nI n ≤ (8 : Int32) from nI_le (b := 8) h (by decide)), Nat.min_eq_right h]
      · rw [if_neg (show ¬ nI n ≤ (8 : Int32) from nI_ge (a := 8) (by omega) (by omega)), Nat.min_eq_left (by omega)]
        rfl
    rw [show f_X11_loadLatest v0 (nI n) (1 : Int32) = _ from t3, show f_X12_isThere v (nI n) (1 : Int32) = _ from t4, bnd1_s, if_neg (show ¬ (1 : Int32) = 0 by decide), hle, bnd1_s, bnd2_s, if_neg (show ¬ (1 : Int32) = 0 by decide)]
    by_cases c1 : p2 < 1
    · left
      refine ⟨v0, rfl, if_pos c1, ?_⟩
      unfold f_X12_in
      rw [if_pos c1, bnd1_s, if_pos rfl]
    · have h0 : ¬ p2 < 0 := fun q => c1 (by
        rw [Int32.lt_iff_toInt_lt] at q ⊢
        rw [show (0 : Int32).toInt = 0 from rfl] at q
        rw [show (1 : Int32).toInt = 1 from rfl]
        omega)
      obtain ⟨l, hl, el⟩ := nI_of h0
      subst el
      have hl1 : 1 ≤ l := Nat.le_of_not_lt (fun q => c1 (nI_lt (b := 1) q (by decide)))
      have i2 : f_X12_in (nI l) 1 (nI (min 8 n)) = some (if (decide (1 ≤ l) && decide (l ≤ min 8 n)) = true then 1 else 0) := m_in2 (a := 1) (b := min 8 n) (by decide) (by omega) hl
      rw [if_neg c1, i2, bnd1_s]
      by_cases c2 : l ≤ min 8 n
      · right
        rw [if_neg (show ¬ (8 : Int32) < nI l from nI_nlt (a := 8) (by omega) (by decide)), if_neg (nI_nlt (by omega) (by omega)), if_neg (by rw [if_pos (in_dec ⟨hl1, c2⟩)]; decide)]
        exact ⟨n, l, H, u, rfl, rfl, hl1, by omega, by omega, t2, rfl, rfl⟩
      · left
        refine ⟨v0, rfl, ?_, if_pos (by rw [if_neg (in_ndec (by omega))])⟩
        by_cases c3 : 8 < l
        · rw [if_pos (show (8 : Int32) < nI l from nI_lt (a := 8) c3 hl)]
        · rw [if_neg (show ¬ (8 : Int32) < nI l from nI_nlt (a := 8) (by omega) (by decide)), if_pos (nI_lt (by omega) hl)]
theorem q_tuple {v0 : V11} {v : V12} (hQ : RQ 300 301 400 v0.1.2.2.2.2.2.1 v.2.1) (p1 p2 : Int32) : ∃ (r : Int32) (u : V11) (v2 : V12), u.1 = v0.1 ∧ f_X11_tuple v0 p1 p2 = some (r, u) ∧ f_X12_tuple v p1 p2 = some (r, v2) ∧ SM v v2 := by
  unfold f_X11_tuple f_X12_tuple
  rcases tup_rel (v := (0, v.2)) hQ p1 p2 with ⟨u, u1, u2, u3⟩ | ⟨n, l, H, u, e1, e2, l1, l2, l3, hL, u2, u3⟩
  · rw [u2, u3, bnd2_s, bnd1_s, if_pos rfl, if_pos rfl]
    exact ⟨-1, (u.1, v0.2.1, v0.2.2.1, v0.2.2.2.1, u.2.2.2.2.1, v0.2.2.2.2.2.1, v0.2.2.2.2.2.2.1, v0.2.2.2.2.2.2.2), (0, v.2), u1, rfl, rfl, rfl, rfl, rfl⟩
  · obtain ⟨g, hB⟩ := hL.bt
    obtain ⟨r, C2, D2, r1, r2, r3⟩ := often_rel hB (v := (0, v.2)) rfl l1 l2 l3
    rw [u2, u3, bnd2_s, bnd1_s, if_neg (show ¬ (1 : Int32) = 0 by decide), if_neg (show ¬ (1 : Int32) = 0 by decide), e1, e2]
    dsimp only
    rw [r2, bnd2_s, r3, bnd2_s]
    exact ⟨nI r, (v0.1, v0.2.1, v0.2.2.1, v0.2.2.2.1, (u.1, C2, u.2.2), v0.2.2.2.2.2.1, v0.2.2.2.2.2.2.1, v0.2.2.2.2.2.2.2), sC (0, v.2) D2, rfl, rfl, rfl, rfl, rfl, rfl⟩
theorem m_pow {x l : Nat} (hx : x < 2 ^ 31) (hl : l < 2 ^ 31) : ∀ (d fu k a : Nat), k + d = l → d < fu → fb_X12_power_5 fu (nI x) (nI l) (lN a) (nI k) = some (lN (a * x ^ d)) := by
  intro d
  induction d with
  | zero =>
    intro fu k a hk hf
    obtain ⟨fu, rfl⟩ : ∃ m, fu = m + 1 := ⟨fu - 1, by omega⟩
    show fl_X12_power_5 (fb_X12_power_5 fu) _ _ _ _ = _
    unfold fl_X12_power_5
    rw [if_pos (nI_le (by omega) (by omega)), Nat.pow_zero, Nat.mul_one]
  | succ d ih =>
    intro fu k a hk hf
    obtain ⟨fu, rfl⟩ : ∃ m, fu = m + 1 := ⟨fu - 1, by omega⟩
    have ih := ih fu (k + 1) (a * x) (by omega) (by omega)
    rw [Nat.mul_assoc, ← Nat.pow_succ'] at ih
    refine Eq.trans ?_ ih
    show fl_X12_power_5 (fb_X12_power_5 fu) _ _ _ _ = _
    unfold fl_X12_power_5
    rw [if_neg (nI_ge (by omega) (by omega)), nI_l hx, lN_mul, bnd_e, bnd_e, nI_1]
theorem x_spr {v0 : V11} {c l : Nat} (hc : v0.1.1.1 0 = nI c) (hc16 : c ≤ 16) (hl : l ≤ 8) : ∀ (d fu k a b : Nat), k + d = l → d < fu → a * 16 ^ d < 2 ^ 63 → b * c ^ d < 2 ^ 63 → fb_X11_spreads_32 fu v0 (nI l) (lN a) (lN b) (nI k) = some ((if b * c ^ d < a * 16 ^ d then 0 else 1), v0) := by
  intro d
  induction d with
  | zero =>
    intro fu k a b hk hf ha hb
    obtain ⟨fu, rfl⟩ : ∃ m, fu = m + 1 := ⟨fu - 1, by omega⟩
    rw [Nat.pow_zero, Nat.mul_one] at ha hb
    show fl_X11_spreads_32 (fb_X11_spreads_32 fu) _ _ _ _ _ = _
    unfold fl_X11_spreads_32
    rw [if_pos (nI_le (by omega) (by omega)), Nat.pow_zero, Nat.pow_zero, Nat.mul_one, Nat.mul_one]
    by_cases h : b < a
    · rw [if_pos ((lN_ltI hb ha).mpr h), if_pos h]
    · rw [if_neg (fun q => h ((lN_ltI hb ha).mp q)), if_neg h]
  | succ d ih =>
    intro fu k a b hk hf ha hb
    obtain ⟨fu, rfl⟩ : ∃ m, fu = m + 1 := ⟨fu - 1, by omega⟩
    rw [Nat.pow_succ', ← Nat.mul_assoc] at ha hb
    have ih := ih fu (k + 1) (a * 16) (b * c) (by omega) (by omega) ha hb
    rw [Nat.pow_succ', ← Nat.mul_assoc, Nat.pow_succ', ← Nat.mul_assoc]
    refine Eq.trans ?_ ih
    show fl_X11_spreads_32 (fb_X11_spreads_32 fu) _ _ _ _ _ = _
    unfold fl_X11_spreads_32
    rw [if_neg (nI_ge (by omega) (by omega)), show lN a * (16 : Int64) = lN (a * 16) from lN_mul a 16, bnd_e, show f_X7_valueOf v0.1.1 (0 : Int32) = f_X7_valueOf v0.1.1 (nI 0) from rfl, val_nI _ (by decide), bnd1_s, hc, nI_l (by omega), lN_mul, bnd_e, bnd_e, nI_1]
theorem q_spreads {B : Nat} {v0 : V11} {v : V12} (hR : R B v0.1 v.2.1) (p1 p2 : Int32) : ∃ (r : Int32) (u : V11) (v2 : V12), u.1 = v0.1 ∧ f_X11_spreads v0 p1 p2 = some (r, u) ∧ f_X12_spreads v p1 p2 = some (r, v2) ∧ SM v v2 := by
  obtain ⟨c, lg, W, BL, o, hSV, hS, -, -, -, -, hQ, -⟩ := hR
  obtain ⟨f0, -⟩ := hSV.cells hS
  have hc := hSV.2.2.1
  have hc0 := hSV.1
  unfold f_X11_spreads f_X12_spreads
  rcases tup_rel (v := (0, v.2)) hQ p1 p2 with ⟨u, u1, u2, u3⟩ | ⟨n, l, H, u, e1, e2, l1, l2, l3, hL, u2, u3⟩
  · rw [u2, u3, bnd2_s, bnd1_s, if_pos rfl, if_pos rfl]
    exact ⟨0, (u.1, v0.2.1, v0.2.2.1, v0.2.2.2.1, u.2.2.2.2.1, v0.2.2.2.2.2.1, v0.2.2.2.2.2.2.1, v0.2.2.2.2.2.2.2), (0, v.2), u1, rfl, rfl, rfl, rfl, rfl⟩
  · obtain ⟨g, hB⟩ := hL.bt
    have hn4 := hB.2.2.1
    obtain ⟨r, C2, D2, r1, r2, r3⟩ := often_rel hB (v := (0, v.2)) rfl l1 l2 l3
    have z1 : r * 16 ^ l ≤ 400 * 16 ^ 8 := Nat.mul_le_mul r1 (Nat.pow_le_pow_right (by decide) l2)
    have z2 : c ^ l ≤ 16 ^ 8 := Nat.le_trans (Nat.pow_le_pow_left (by omega) l) (Nat.pow_le_pow_right (by decide) l2)
    have z3 : (n - l + 1) * c ^ l ≤ 400 * 16 ^ 8 := Nat.mul_le_mul (by omega) z2
    have p16 := m_pow (x := 16) (l := l) (by decide) (by omega) l FU 0 1 (by omega) (by show l < 8589934592; omega)
    have pc := m_pow (x := c) (l := l) (by omega) (by omega) l FU 0 1 (by omega) (by show l < 8589934592; omega)
    rw [Nat.one_mul] at p16 pc
    have hs := x_spr (v0 := (v0.1, v0.2.1, v0.2.2.1, v0.2.2.2.1, (u.1, C2, u.2.2), v0.2.2.2.2.2.1, v0.2.2.2.2.2.2.1, v0.2.2.2.2.2.2.2)) (c := c) (l := l) hc0 (by omega) l2 l FU 0 r (n - l + 1) (by omega) (by show l < 8589934592; omega) (by omega) (by omega)
    rw [u2, u3, bnd2_s, bnd1_s, if_neg (show ¬ (1 : Int32) = 0 by decide), if_neg (show ¬ (1 : Int32) = 0 by decide), e1, e2]
    dsimp only
    rw [r2, bnd2_s, r3, bnd2_s, pk_sub l3, nI_1, nI_l (by omega), nI_l (by omega), bnd_e, bnd_e]
    unfold f_X12_power
    have hcell : (sC ((0 : Int32), v.2) D2).2.1 0 = nI c := f0
    rw [show fb_X12_power_5 FU (16 : Int32) (nI l) (1 : Int64) (0 : Int32) = _ from p16, bnd1_s, chk_in (show vp_in (0 : Int32) 4725 by unfold vp_in; decide), show ((0 : Int32)).toNatClampNeg = 0 from rfl, hcell, show fb_X12_power_5 FU (nI c) (nI l) (1 : Int64) (0 : Int32) = _ from pc, bnd1_s, lN_mul, lN_mul, show fb_X11_spreads_32 FU (v0.1, v0.2.1, v0.2.2.1, v0.2.2.2.1, (u.1, C2, u.2.2), v0.2.2.2.2.2.1, v0.2.2.2.2.2.2.1, v0.2.2.2.2.2.2.2) (nI l) (lN r) (lN (n - l + 1)) (0 : Int32) = _ from hs]
    by_cases h : (n - l + 1) * c ^ l < r * 16 ^ l
    · rw [if_pos h, if_pos ((lN_ltI (by omega) (by omega)).mpr h)]
      exact ⟨0, (v0.1, v0.2.1, v0.2.2.1, v0.2.2.2.1, (u.1, C2, u.2.2), v0.2.2.2.2.2.1, v0.2.2.2.2.2.2.1, v0.2.2.2.2.2.2.2), sC (0, v.2) D2, rfl, rfl, rfl, rfl, rfl, rfl⟩
    · rw [if_neg h, if_neg (fun q => h ((lN_ltI (by omega) (by omega)).mp q))]
      exact ⟨1, (v0.1, v0.2.1, v0.2.2.1, v0.2.2.2.1, (u.1, C2, u.2.2), v0.2.2.2.2.2.1, v0.2.2.2.2.2.2.1, v0.2.2.2.2.2.2.2), sC (0, v.2) D2, rfl, rfl, rfl, rfl, rfl, rfl⟩
end TU
end mp_67_tu
section mp_68_co
section CO
theorem x_has (r : V6) (p : Int32) : f_X6_has r p = some 0 ∨ (f_X6_has r p = some 1 ∧ ∃ i : Nat, i < 15 ∧ p = nI i) := by
  unfold f_X6_has
  by_cases h0 : p < 0
  · rw [if_pos h0]; exact Or.inl rfl
  · rw [if_neg h0]
    by_cases h1 : r.2.2 ≤ p
    · rw [if_pos h1]; exact Or.inl rfl
    · rw [if_neg h1]
      obtain ⟨i, hi, e⟩ := nI_of h0
      by_cases h2 : i < 15
      · rw [if_neg (show ¬ (15 : Int32) ≤ p by rw [e]; exact nI_ge (b := 15) h2 (by decide))]
        exact Or.inr ⟨rfl, i, h2, e⟩
      · rw [if_pos (show (15 : Int32) ≤ p by rw [e]; exact nI_le (a := 15) (by omega) hi)]
        exact Or.inl rfl
theorem x_lenO (r : V6) (p : Int32) : ∃ a : Int32, f_X6_lengthOf r p = some a := by
  unfold f_X6_lengthOf
  rcases x_has r p with h | ⟨h, i, hi, e⟩
  · rw [h, bnd1_s, if_pos rfl]; exact ⟨_, rfl⟩
  · rw [h, bnd1_s, if_neg (by decide), e, chk_nI hi (by decide)]; exact ⟨_, rfl⟩
theorem x_smpO (r : V6) (p k : Int32) : ∃ a : Int32, f_X6_sampleOf r p k = some a := by
  unfold f_X6_sampleOf
  rcases x_has r p with h | ⟨h, i, hi, e⟩
  · rw [h, bnd1_s, if_pos rfl]; exact ⟨_, rfl⟩
  · rw [h, bnd1_s, if_neg (by decide)]
    by_cases c : k < 0
    · rw [if_pos c]; exact ⟨_, rfl⟩
    · rw [if_neg c, e, chk_nI hi (by decide)]
      by_cases c2 : r.2.1 (nI i).toNatClampNeg ≤ k
      · rw [if_pos c2]; exact ⟨_, rfl⟩
      · rw [if_neg c2, chk_nI hi (by decide)]; exact ⟨_, rfl⟩
theorem x_fulO (r : V6) (p : Int32) : f_X6_isFull r p = some 0 ∨ f_X6_isFull r p = some 1 := by
  unfold f_X6_isFull
  obtain ⟨a, h⟩ := x_lenO r p
  rw [h, bnd1_s]
  by_cases c : a = 15
  · rw [if_pos c]; exact Or.inr rfl
  · rw [if_neg c]; exact Or.inl rfl
theorem nt15 {i : Nat} (h : i < 15) : ¬ (15 : Int32) ≤ nI i := nI_ge (b := 15) h (by decide)
theorem x_fullO (r : V6) : ∀ (d fu i a : Nat), i + d = 15 → a ≤ i → d < fu → ∃ b : Nat, b ≤ 15 ∧ fb_X6_full_4 r fu (nI a) (nI i) = some (nI b) := by
  intro d
  induction d with
  | zero =>
    intro fu i a hi ha hf
    obtain ⟨fu, rfl⟩ : ∃ m, fu = m + 1 := ⟨fu - 1, by omega⟩
    have hi : i = 15 := by omega
    subst hi
    refine ⟨a, ha, ?_⟩
    show fl_X6_full_4 r (fb_X6_full_4 r fu) _ _ = _
    unfold fl_X6_full_4
    rw [if_pos (by decide)]
  | succ d ih =>
    intro fu i a hi ha hf
    obtain ⟨fu, rfl⟩ : ∃ m, fu = m + 1 := ⟨fu - 1, by omega⟩
    show ∃ b : Nat, b ≤ 15 ∧ fl_X6_full_4 r (fb_X6_full_4 r fu) (nI a) (nI i) = some (nI b)
    unfold fl_X6_full_4
    rw [if_neg (nt15 (by omega))]
    rcases x_fulO r (nI i) with h | h
    · rw [h, bnd1_s, if_pos rfl, bnd_e, nI_1]
      exact ih fu (i + 1) a (by omega) (by omega) (by omega)
    · rw [h, bnd1_s, if_neg (by decide), bnd_e, bnd_e, nI_1, nI_1]
      exact ih fu (i + 1) (a + 1) (by omega) (by omega) (by omega)
theorem x_morR (r : V6) (p : Int32) : ∃ a : Int32, f_X6_moreOfRow r p = some a := by
  unfold f_X6_moreOfRow f_J6_bitCount_0f7a4
  rcases x_has r p with h | ⟨h, i, hi, e⟩
  · rw [h, bnd1_s, if_pos rfl]; exact ⟨_, rfl⟩
  · rw [h, bnd1_s, if_neg (by decide)]
    rcases x_fulO r p with c | c
    · rw [c, bnd1_s, if_pos rfl]; exact ⟨_, rfl⟩
    · rw [c, bnd1_s, if_neg (by decide), e, chk_nI hi (by decide), bnd_e, bnd_e, bnd_e, bnd_e, bnd_e, bnd1_s, bnd_e]; exact ⟨_, rfl⟩
theorem x_graR (r : V6) : ∀ (d fu i : Nat) (x : Int32), i + d = 15 → d < fu → ∃ a : Int32, fb_X6_greatestRow_4 r fu x (nI i) = some a := by
  intro d
  induction d with
  | zero =>
    intro fu i x hi hf
    obtain ⟨fu, rfl⟩ : ∃ m, fu = m + 1 := ⟨fu - 1, by omega⟩
    have hi : i = 15 := by omega
    subst hi
    refine ⟨x, ?_⟩
    show fl_X6_greatestRow_4 r (fb_X6_greatestRow_4 r fu) _ _ = _
    unfold fl_X6_greatestRow_4
    rw [if_pos (by decide)]
  | succ d ih =>
    intro fu i x hi hf
    obtain ⟨fu, rfl⟩ : ∃ m, fu = m + 1 := ⟨fu - 1, by omega⟩
    show ∃ a : Int32, fl_X6_greatestRow_4 r (fb_X6_greatestRow_4 r fu) x (nI i) = some a
    unfold fl_X6_greatestRow_4
    obtain ⟨y, h⟩ := x_morR r (nI i)
    rw [if_neg (nt15 (by omega)), h, bnd1_s, bnd_e, bnd_e, nI_1]
    exact ih fu (i + 1) _ (by omega) (by omega)
theorem x_morC (r : V6) (c : Int32) : ∀ (d fu i : Nat) (x y : Int32), i + d = 15 → d < fu → ∃ a : Int32, fb_X6_moreOfColumn_7 r fu c x y (nI i) = some a := by
  intro d
  induction d with
  | zero =>
    intro fu i x y hi hf
    obtain ⟨fu, rfl⟩ : ∃ m, fu = m + 1 := ⟨fu - 1, by omega⟩
    have hi : i = 15 := by omega
    subst hi
    show ∃ a : Int32, fl_X6_moreOfColumn_7 r (fb_X6_moreOfColumn_7 r fu) c x y (nI 15) = some a
    unfold fl_X6_moreOfColumn_7
    rw [if_pos (by decide)]
    by_cases h : 2 ≤ y
    · rw [if_pos h, bnd_e]; exact ⟨_, rfl⟩
    · rw [if_neg h]; exact ⟨_, rfl⟩
  | succ d ih =>
    intro fu i x y hi hf
    obtain ⟨fu, rfl⟩ : ∃ m, fu = m + 1 := ⟨fu - 1, by omega⟩
    show ∃ a : Int32, fl_X6_moreOfColumn_7 r (fb_X6_moreOfColumn_7 r fu) c x y (nI i) = some a
    unfold fl_X6_moreOfColumn_7
    rw [if_neg (nt15 (by omega))]
    rcases x_fulO r (nI i) with h | h
    · rw [h, bnd1_s, if_pos rfl, bnd_e, nI_1]
      exact ih fu (i + 1) x y (by omega) (by omega)
    · obtain ⟨s, hs⟩ := x_smpO r (nI i) c
      rw [h, bnd1_s, if_neg (by decide), bnd_e, hs, bnd1_s, bnd_e, bnd_e, nI_1]
      exact ih fu (i + 1) _ _ (by omega) (by omega)
theorem x_morCO (r : V6) (c : Int32) : ∃ a : Int32, f_X6_moreOfColumn r c = some a := x_morC r c 15 FU 0 0 0 (by omega) (by decide)
theorem x_graC (r : V6) : ∀ (d fu i : Nat) (x : Int32), i + d = 15 → d < fu → ∃ a : Int32, fb_X6_greatestColumn_4 r fu x (nI i) = some a := by
  intro d
  induction d with
  | zero =>
    intro fu i x hi hf
    obtain ⟨fu, rfl⟩ : ∃ m, fu = m + 1 := ⟨fu - 1, by omega⟩
    have hi : i = 15 := by omega
    subst hi
    refine ⟨x, ?_⟩
    show fl_X6_greatestColumn_4 r (fb_X6_greatestColumn_4 r fu) _ _ = _
    unfold fl_X6_greatestColumn_4
    rw [if_pos (by decide)]
  | succ d ih =>
    intro fu i x hi hf
    obtain ⟨fu, rfl⟩ : ∃ m, fu = m + 1 := ⟨fu - 1, by omega⟩
    show ∃ a : Int32, fl_X6_greatestColumn_4 r (fb_X6_greatestColumn_4 r fu) x (nI i) = some a
    unfold fl_X6_greatestColumn_4
    obtain ⟨y, h⟩ := x_morCO r (nI i)
    rw [if_neg (nt15 (by omega)), h, bnd1_s, bnd_e, bnd_e, nI_1]
    exact ih fu (i + 1) _ (by omega) (by omega)
theorem x_abvR (r : V6) (m : Int32) : ∀ (d fu i : Nat) (x : Int32), i + d = 15 → d < fu → ∃ a : Int32, fb_X6_rowsAbove_4 r fu m x (nI i) = some a := by
  intro d
  induction d with
  | zero =>
    intro fu i x hi hf
    obtain ⟨fu, rfl⟩ : ∃ m, fu = m + 1 := ⟨fu - 1, by omega⟩
    have hi : i = 15 := by omega
    subst hi
    refine ⟨x, ?_⟩
    show fl_X6_rowsAbove_4 r (fb_X6_rowsAbove_4 r fu) _ _ _ = _
    unfold fl_X6_rowsAbove_4
    rw [if_pos (by decide)]
  | succ d ih =>
    intro fu i x hi hf
    obtain ⟨fu, rfl⟩ : ∃ m, fu = m + 1 := ⟨fu - 1, by omega⟩
    show ∃ a : Int32, fl_X6_rowsAbove_4 r (fb_X6_rowsAbove_4 r fu) m x (nI i) = some a
    unfold fl_X6_rowsAbove_4
    obtain ⟨y, h⟩ := x_morR r (nI i)
    rw [if_neg (nt15 (by omega)), h, bnd1_s]
    by_cases c : y ≤ m
    · rw [if_pos c, bnd_e, nI_1]
      exact ih fu (i + 1) _ (by omega) (by omega)
    · rw [if_neg c, bnd_e, bnd_e, nI_1]
      exact ih fu (i + 1) _ (by omega) (by omega)
theorem x_abvC (r : V6) (m : Int32) : ∀ (d fu i : Nat) (x : Int32), i + d = 15 → d < fu → ∃ a : Int32, fb_X6_columnsAbove_4 r fu m x (nI i) = some a := by
  intro d
  induction d with
  | zero =>
    intro fu i x hi hf
    obtain ⟨fu, rfl⟩ : ∃ m, fu = m + 1 := ⟨fu - 1, by omega⟩
    have hi : i = 15 := by omega
    subst hi
    refine ⟨x, ?_⟩
    show fl_X6_columnsAbove_4 r (fb_X6_columnsAbove_4 r fu) _ _ _ = _
    unfold fl_X6_columnsAbove_4
    rw [if_pos (by decide)]
  | succ d ih =>
    intro fu i x hi hf
    obtain ⟨fu, rfl⟩ : ∃ m, fu = m + 1 := ⟨fu - 1, by omega⟩
    show ∃ a : Int32, fl_X6_columnsAbove_4 r (fb_X6_columnsAbove_4 r fu) m x (nI i) = some a
    unfold fl_X6_columnsAbove_4
    obtain ⟨y, h⟩ := x_morCO r (nI i)
    rw [if_neg (nt15 (by omega)), h, bnd1_s]
    by_cases c : y ≤ m
    · rw [if_pos c, bnd_e, nI_1]
      exact ih fu (i + 1) _ (by omega) (by omega)
    · rw [if_neg c, bnd_e, bnd_e, nI_1]
      exact ih fu (i + 1) _ (by omega) (by omega)
theorem x_rowsOf {v0 : V11} {c lg W BL o n : Nat} (hSV : SV v0.1.1.1 c lg W BL o) (hn : n ≤ 15) : ∃ T : V2, f_X11_rowsOf v0 (nI n) = some (nI (lmW c lg n), (v0.1, v0.2.1, v0.2.2.1, v0.2.2.2.1, v0.2.2.2.2.1, T, v0.2.2.2.2.2.2)) := by
  obtain ⟨g0, g1, g2, g3, g4, g5, g6, g7, g8, g9, g10, g11, g12, g13, g14⟩ := hSV
  obtain ⟨T, t1, t2⟩ := x_fill v0.2.2.2.2.2.1 (c := c) (n := n) g2 hn
  refine ⟨(T, nI n, v0.2.2.2.2.2.1.2.2), ?_⟩
  unfold f_X11_rowsOf
  rw [show f_X7_valueOf v0.1.1 (0 : Int32) = f_X7_valueOf v0.1.1 (nI 0) from rfl, show f_X7_valueOf v0.1.1 (1 : Int32) = f_X7_valueOf v0.1.1 (nI 1) from rfl, val_nI _ (by decide), val_nI _ (by decide), bnd1_s, g0, g3, t1, bnd1_s, bnd1_s, x_least _ g1 g2 hn g5 t2, bnd1_s]
theorem x_comp {v0 : V11} {c lg W BL o : Nat} (hSV : SV v0.1.1.1 c lg W BL o) (p : Int32) : ∃ (r : Int32) (u : V11), u.1 = v0.1 ∧ f_X11_compared v0 p = some (r, u) := by
  unfold f_X11_compared
  by_cases h0 : p < 0 ∨ 4 < p
  · rw [if_pos h0]; exact ⟨_, v0, rfl, rfl⟩
  · rw [if_neg h0]
    obtain ⟨b, b1, b2⟩ := x_fullO v0.1.2.2.2.2.2.2.1 15 FU 0 0 (by omega) (by omega) (by decide)
    have b2' : f_X6_full v0.1.2.2.2.2.2.2.1 = some (nI b) := b2
    by_cases c0 : p = 0
    · rw [if_pos c0, b2', bnd1_s]; exact ⟨_, v0, rfl, rfl⟩
    · rw [if_neg c0]
      by_cases c1 : p = 1
      · obtain ⟨a, ha⟩ := x_graR v0.1.2.2.2.2.2.2.1 15 FU 0 0 (by omega) (by decide)
        have ha' : f_X6_greatestRow v0.1.2.2.2.2.2.2.1 = some a := ha
        rw [if_pos c1, ha', bnd1_s]; exact ⟨_, v0, rfl, rfl⟩
      · rw [if_neg c1]
        by_cases c2 : p = 2
        · obtain ⟨a, ha⟩ := x_graC v0.1.2.2.2.2.2.2.1 15 FU 0 0 (by omega) (by decide)
          have ha' : f_X6_greatestColumn v0.1.2.2.2.2.2.2.1 = some a := ha
          rw [if_pos c2, ha', bnd1_s]; exact ⟨_, v0, rfl, rfl⟩
        · rw [if_neg c2]
          by_cases c3 : p = 3
          · obtain ⟨T, t1⟩ := x_rowsOf hSV (n := 15) (by omega)
            obtain ⟨a, ha⟩ := x_abvR v0.1.2.2.2.2.2.2.1 (nI (lmW c lg 15)) 15 FU 0 0 (by omega) (by decide)
            have ha' : f_X6_rowsAbove v0.1.2.2.2.2.2.2.1 (nI (lmW c lg 15)) = some a := ha
            rw [if_pos c3, show f_X11_rowsOf v0 (15 : Int32) = _ from t1, bnd2_s]
            dsimp only
            rw [ha', bnd1_s]
            exact ⟨a, (v0.1, v0.2.1, v0.2.2.1, v0.2.2.2.1, v0.2.2.2.2.1, T, v0.2.2.2.2.2.2.1, v0.2.2.2.2.2.2.2), rfl, rfl⟩
          · have c4 : p = 4 := by
              have h1 : ¬ p < 0 := fun q => h0 (Or.inl q)
              obtain ⟨i, hi, e⟩ := nI_of h1
              rw [e] at h0 c0 c1 c2 c3 ⊢
              have : ¬ 4 < i := fun q => h0 (Or.inr (nI_lt (a := 4) q hi))
              have q0 : i ≠ 0 := fun q => c0 (by rw [q]; rfl)
              have q1 : i ≠ 1 := fun q => c1 (by rw [q]; rfl)
              have q2 : i ≠ 2 := fun q => c2 (by rw [q]; rfl)
              have q3 : i ≠ 3 := fun q => c3 (by rw [q]; rfl)
              rw [show i = 4 by omega]; rfl
            obtain ⟨T, t1⟩ := x_rowsOf hSV b1
            obtain ⟨a, ha⟩ := x_abvC v0.1.2.2.2.2.2.2.1 (nI (lmW c lg b)) 15 FU 0 0 (by omega) (by decide)
            have ha' : f_X6_columnsAbove v0.1.2.2.2.2.2.2.1 (nI (lmW c lg b)) = some a := ha
            rw [if_neg c3, if_pos c4, b2', bnd1_s, t1, bnd2_s]
            dsimp only
            rw [ha', bnd1_s]
            exact ⟨a, (v0.1, v0.2.1, v0.2.2.1, v0.2.2.2.1, v0.2.2.2.2.1, T, v0.2.2.2.2.2.2.1, v0.2.2.2.2.2.2.2), rfl, rfl⟩
theorem m_isW {v : V12} {i : Nat} (hi : i < 15) : f_X12_isWhole v (nI i) = some 0 ∨ f_X12_isWhole v (nI i) = some 1 := by
  unfold f_X12_isWhole
  rw [show f_X12_rowAt v (nI i) (0 : Int32) = _ from m_rowAt (k := 0) hi (by decide), bnd1_s]
  by_cases c : v.2.1 (702 + 16 * i + 0) = 15
  · rw [if_pos c]; exact Or.inr rfl
  · rw [if_neg c]; exact Or.inl rfl
theorem m_whole {v : V12} {N : Nat} (hN : N ≤ 15) (h701 : v.2.1 701 = nI N) : ∀ (d fu i a : Nat), i + d = N → a ≤ i → d < fu → ∃ b : Nat, b ≤ 15 ∧ fb_X12_wholeRows_4 v fu (nI a) (nI i) = some (nI b) := by
  intro d
  induction d with
  | zero =>
    intro fu i a hi ha hf
    obtain ⟨fu, rfl⟩ : ∃ m, fu = m + 1 := ⟨fu - 1, by omega⟩
    refine ⟨a, by omega, ?_⟩
    show fl_X12_wholeRows_4 v (fb_X12_wholeRows_4 v fu) _ _ = _
    unfold fl_X12_wholeRows_4
    rw [chk_in (show vp_in (701 : Int32) 4725 by unfold vp_in; decide), show ((701 : Int32)).toNatClampNeg = 701 from rfl, h701, if_pos (nI_le (by omega) (by omega))]
  | succ d ih =>
    intro fu i a hi ha hf
    obtain ⟨fu, rfl⟩ : ∃ m, fu = m + 1 := ⟨fu - 1, by omega⟩
    show ∃ b : Nat, b ≤ 15 ∧ fl_X12_wholeRows_4 v (fb_X12_wholeRows_4 v fu) (nI a) (nI i) = some (nI b)
    unfold fl_X12_wholeRows_4
    rw [chk_in (show vp_in (701 : Int32) 4725 by unfold vp_in; decide), show ((701 : Int32)).toNatClampNeg = 701 from rfl, h701, if_neg (nI_ge (by omega) (by omega))]
    rcases m_isW (v := v) (i := i) (by omega) with h | h
    · rw [h, bnd1_s, if_pos rfl, bnd_e, bnd_e, nI_1, Int32.add_zero]
      exact ih fu (i + 1) a (by omega) (by omega) (by omega)
    · rw [h, bnd1_s, if_neg (by decide), bnd_e, bnd_e, nI_1, nI_1]
      exact ih fu (i + 1) (a + 1) (by omega) (by omega) (by omega)
theorem m_ofR {v : V12} {i : Nat} (hi : i < 15) : ∀ (d fu k : Nat) (x : Int32), k + d = 15 → d < fu → ∃ a : Int32, fb_X12_ofRow_4 v fu (nI i) x (nI k) = some a := by
  intro d
  induction d with
  | zero =>
    intro fu k x hk hf
    obtain ⟨fu, rfl⟩ : ∃ m, fu = m + 1 := ⟨fu - 1, by omega⟩
    have hk : k = 15 := by omega
    subst hk
    show ∃ a : Int32, fl_X12_ofRow_4 v (fb_X12_ofRow_4 v fu) (nI i) x (nI 15) = some a
    unfold fl_X12_ofRow_4 f_X12_greater
    rw [if_pos (by decide)]
    by_cases c : x ≤ 15 - x
    · rw [if_pos c, bnd1_s]; exact ⟨_, rfl⟩
    · rw [if_neg c, bnd1_s]; exact ⟨_, rfl⟩
  | succ d ih =>
    intro fu k x hk hf
    obtain ⟨fu, rfl⟩ : ∃ m, fu = m + 1 := ⟨fu - 1, by omega⟩
    show ∃ a : Int32, fl_X12_ofRow_4 v (fb_X12_ofRow_4 v fu) (nI i) x (nI k) = some a
    unfold fl_X12_ofRow_4
    rw [if_neg (nt15 (by omega)), show (1 : Int32) + nI k = nI (1 + k) from nI_add 1 k, m_rowAt hi (by omega), bnd1_s, bnd_e, bnd_e, nI_1]
    exact ih fu (k + 1) _ (by omega) (by omega)
theorem m_great (x y : Int32) : ∃ a : Int32, f_X12_greater x y = some a := by
  unfold f_X12_greater
  by_cases c : x ≤ y
  · rw [if_pos c]; exact ⟨_, rfl⟩
  · rw [if_neg c]; exact ⟨_, rfl⟩
theorem m_ofC {v : V12} {N k : Nat} (hN : N ≤ 15) (h701 : v.2.1 701 = nI N) (hk : k < 15) (y : Int32) : ∀ (d fu i : Nat) (x : Int32), i + d = N → d < fu → ∃ a : Int32, fb_X12_ofColumn_5 v fu (nI k) y x (nI i) = some a := by
  intro d
  induction d with
  | zero =>
    intro fu i x hi hf
    obtain ⟨fu, rfl⟩ : ∃ m, fu = m + 1 := ⟨fu - 1, by omega⟩
    show ∃ a : Int32, fl_X12_ofColumn_5 v (fb_X12_ofColumn_5 v fu) (nI k) y x (nI i) = some a
    unfold fl_X12_ofColumn_5
    obtain ⟨a, ha⟩ := m_great x (y - x)
    rw [chk_in (show vp_in (701 : Int32) 4725 by unfold vp_in; decide), show ((701 : Int32)).toNatClampNeg = 701 from rfl, h701, if_pos (nI_le (by omega) (by omega)), ha, bnd1_s]
    exact ⟨_, rfl⟩
  | succ d ih =>
    intro fu i x hi hf
    obtain ⟨fu, rfl⟩ : ∃ m, fu = m + 1 := ⟨fu - 1, by omega⟩
    show ∃ a : Int32, fl_X12_ofColumn_5 v (fb_X12_ofColumn_5 v fu) (nI k) y x (nI i) = some a
    unfold fl_X12_ofColumn_5
    rw [chk_in (show vp_in (701 : Int32) 4725 by unfold vp_in; decide), show ((701 : Int32)).toNatClampNeg = 701 from rfl, h701, if_neg (nI_ge (by omega) (by omega))]
    rcases m_isW (v := v) (i := i) (by omega) with h | h
    · rw [h, bnd1_s, if_pos rfl, bnd_e, bnd_e, nI_1]
      exact ih fu (i + 1) _ (by omega) (by omega)
    · rw [h, bnd1_s, if_neg (by decide), show (1 : Int32) + nI k = nI (1 + k) from nI_add 1 k, m_rowAt (by omega) (by omega), bnd1_s, bnd_e, bnd_e, nI_1]
      exact ih fu (i + 1) _ (by omega) (by omega)
theorem m_188 (v : V12) (x1 x2 x3 x4 : Int32) : ∃ r : Int32, fc_X12_compared_188 v x1 x2 x3 x4 = some (r, v) := by
  unfold fc_X12_compared_188
  by_cases a : x1 = 0
  · rw [if_pos a]; exact ⟨_, rfl⟩
  · rw [if_neg a]
    by_cases b : 3 ≤ x1
    · rw [if_pos b]; exact ⟨_, rfl⟩
    · rw [if_neg b]; exact ⟨_, rfl⟩
theorem m_124 {v : V12} {N : Nat} (hN : N ≤ 15) (h701 : v.2.1 701 = nI N) (x1 x2 x5 : Int32) : ∀ (d fu k : Nat) (x3 x4 : Int32), k + d = 15 → d < fu → ∃ r : Int32, fb_X12_compared_124 fu v x1 x2 x3 x4 x5 (nI k) = some (r, v) := by
  intro d
  induction d with
  | zero =>
    intro fu k x3 x4 hk hf
    obtain ⟨fu, rfl⟩ : ∃ m, fu = m + 1 := ⟨fu - 1, by omega⟩
    have hk : k = 15 := by omega
    subst hk
    show ∃ r : Int32, fl_X12_compared_124 (fb_X12_compared_124 fu) v x1 x2 x3 x4 x5 (nI 15) = some (r, v)
    unfold fl_X12_compared_124
    rw [if_pos (by decide)]
    exact m_188 v x1 x2 x3 x4
  | succ d ih =>
    intro fu k x3 x4 hk hf
    obtain ⟨fu, rfl⟩ : ∃ m, fu = m + 1 := ⟨fu - 1, by omega⟩
    show ∃ r : Int32, fl_X12_compared_124 (fb_X12_compared_124 fu) v x1 x2 x3 x4 x5 (nI k) = some (r, v)
    unfold fl_X12_compared_124
    rw [if_neg (nt15 (by omega))]
    have h146 : ∃ r : Int32, fc_X12_compared_146 (fb_X12_compared_124 fu) v x1 x2 x3 x4 x5 (nI k) = some (r, v) := by
      unfold fc_X12_compared_146
      obtain ⟨a, ha⟩ := m_ofC hN h701 (k := k) (by omega) x2 N FU 0 0 (by omega) (by show N < 8589934592; omega)
      have ha' : f_X12_ofColumn v (nI k) x2 = some a := ha
      obtain ⟨b, hb⟩ := m_great x3 a
      rw [ha', bnd1_s, hb, bnd1_s]
      by_cases c : a ≤ x5
      · rw [if_pos c, bnd_e, bnd_e, nI_1]
        exact ih fu (k + 1) _ _ (by omega) (by omega)
      · rw [if_neg c, bnd_e, bnd_e, nI_1]
        exact ih fu (k + 1) _ _ (by omega) (by omega)
    by_cases c1 : x2 ≤ 1
    · rw [if_pos c1]; exact m_188 v x1 x2 x3 x4
    · rw [if_neg c1]
      by_cases c2 : x1 = 2
      · rw [if_pos c2]; exact h146
      · rw [if_neg c2]
        by_cases c3 : x1 = 4
        · rw [if_pos c3]; exact h146
        · rw [if_neg c3]; exact m_188 v x1 x2 x3 x4
theorem m_37 {v : V12} {N c lg b : Nat} (hN : N ≤ 15) (h701 : v.2.1 701 = nI N) (h0 : v.2.1 0 = nI c) (h1 : v.2.1 1 = nI lg) (c1 : 8 ≤ c) (c2 : c ≤ 15) (l2 : lg ≤ 40) (hb : b ≤ 15) (x1 x5 : Int32) : ∀ (d fu k : Nat) (x3 x4 : Int32), k + d = N → d < fu → ∃ r : Int32, fb_X12_compared_37 fu v x1 (nI b) x3 x4 x5 (nI k) = some (r, v) := by
  have h114 : ∀ x3 x4 : Int32, ∃ r : Int32, fc_X12_compared_114 v x1 (nI b) x3 x4 = some (r, v) := by
    intro x3 x4
    unfold fc_X12_compared_114
    rw [m_rows h0 h1 c1 c2 l2 hb, bnd1_s]
    exact m_124 hN h701 x1 (nI b) _ 15 FU 0 x3 x4 (by omega) (by decide)
  intro d
  induction d with
  | zero =>
    intro fu k x3 x4 hk hf
    obtain ⟨fu, rfl⟩ : ∃ m, fu = m + 1 := ⟨fu - 1, by omega⟩
    show ∃ r : Int32, fl_X12_compared_37 (fb_X12_compared_37 fu) v x1 (nI b) x3 x4 x5 (nI k) = some (r, v)
    unfold fl_X12_compared_37
    rw [chk_in (show vp_in (701 : Int32) 4725 by unfold vp_in; decide), show ((701 : Int32)).toNatClampNeg = 701 from rfl, h701, if_pos (nI_le (by omega) (by omega))]
    exact h114 x3 x4
  | succ d ih =>
    intro fu k x3 x4 hk hf
    obtain ⟨fu, rfl⟩ : ∃ m, fu = m + 1 := ⟨fu - 1, by omega⟩
    show ∃ r : Int32, fl_X12_compared_37 (fb_X12_compared_37 fu) v x1 (nI b) x3 x4 x5 (nI k) = some (r, v)
    unfold fl_X12_compared_37
    rw [chk_in (show vp_in (701 : Int32) 4725 by unfold vp_in; decide), show ((701 : Int32)).toNatClampNeg = 701 from rfl, h701, if_neg (nI_ge (by omega) (by omega))]
    have h79 : ∀ t : Int32, ∃ r : Int32, fc_X12_compared_79 (fb_X12_compared_37 fu) v x1 (nI b) x3 x4 x5 (nI k) t = some (r, v) := by
      intro t
      unfold fc_X12_compared_79
      obtain ⟨a, ha⟩ := m_great x3 t
      rw [ha, bnd1_s]
      by_cases q : t ≤ x5
      · rw [if_pos q, bnd_e, bnd_e, nI_1]
        exact ih fu (k + 1) _ _ (by omega) (by omega)
      · rw [if_neg q, bnd_e, bnd_e, nI_1]
        exact ih fu (k + 1) _ _ (by omega) (by omega)
    have h60 : ∃ r : Int32, fc_X12_compared_60 (fb_X12_compared_37 fu) v x1 (nI b) x3 x4 x5 (nI k) = some (r, v) := by
      unfold fc_X12_compared_60
      rcases m_isW (v := v) (i := k) (by omega) with h | h
      · rw [h, bnd1_s, if_pos rfl]; exact h79 0
      · obtain ⟨a, ha⟩ := m_ofR (v := v) (i := k) (by omega) 15 FU 0 0 (by omega) (by decide)
        have ha' : f_X12_ofRow v (nI k) = some a := ha
        rw [h, bnd1_s, if_neg (by decide), ha', bnd1_s]
        exact h79 a
    by_cases q1 : x1 = 1
    · rw [if_pos q1]; exact h60
    · rw [if_neg q1]
      by_cases q2 : x1 = 3
      · rw [if_pos q2]; exact h60
      · rw [if_neg q2]; exact h114 x3 x4
theorem q_compared {B : Nat} {v0 : V11} {v : V12} (hR : R B v0.1 v.2.1) (p : Int32) : ∃ (r r2 : Int32) (u : V11), u.1 = v0.1 ∧ f_X11_compared v0 p = some (r, u) ∧ f_X12_compared v p = some (r2, (0, v.2)) := by
  obtain ⟨c, lg, W, BL, o, hSV, hS, -, -, -, -, -, hRr, -⟩ := hR
  obtain ⟨f0, f1, -⟩ := hSV.cells hS
  obtain ⟨r, u, u1, u2⟩ := x_comp hSV p
  obtain ⟨N, n1, -, n3, -⟩ := hRr
  obtain ⟨g0, g1, g2, g3, g4, g5, -⟩ := hSV
  have hm : ∃ r2 : Int32, f_X12_compared v p = some (r2, (0, v.2)) := by
    unfold f_X12_compared
    rw [show f_X12_in p 0 4 = f_X12_in p 0 (nI 5 - 1) from rfl]
    rcases in0 p (n := 5) (by decide) with ⟨k, k1, k2, k3⟩ | ⟨k1, k2⟩
    · obtain ⟨b, b1, b2⟩ := m_whole (v := (0, v.2)) n1 n3 N FU 0 0 (by omega) (by omega) (by show N < 8589934592; omega)
      have b2' : f_X12_wholeRows (0, v.2) = some (nI b) := b2
      rw [k3, bnd1_s, if_neg (by decide), b2', bnd1_s, show f_X12_rowsLimit ((0 : Int32), v.2) (15 : Int32) = _ from m_rows (v := (0, v.2)) (n := 15) f0 f1 g1 g2 g5 (by decide), bnd1_s]
      exact m_37 (v := (0, v.2)) n1 n3 f0 f1 g1 g2 g5 b1 p _ N FU 0 0 0 (by omega) (by show N < 8589934592; omega)
    · exact ⟨-1, by rw [k2, bnd1_s, if_pos rfl]⟩
  obtain ⟨r2, h2⟩ := hm
  exact ⟨r, r2, u, u1, u2, h2⟩
end CO
end mp_68_co
section mp_69_ah
section AH
/-- the reference keeps the watch, its images, its text -/
def SA (v v2 : V12) : Prop := (∀ j, j < 3780 → v2.2.1 j = v.2.1 j) ∧ v2.2.2.1 = v.2.2.1 ∧ v2.2.2.2.1 = v.2.2.2.1
theorem SM.sa {v v2 : V12} (h : SM v v2) : SA v v2 := ⟨fun j _ => by rw [h.1], h.2.1, h.2.2⟩
theorem R.st25 {B : Nat} {w : V10} {F : Nat → Int32} (hR : R B w F) : F 25 = w.2.2.2.2.2.2.2.2.1 ∧ (w.2.2.2.2.2.2.2.2.1 = 0 ∨ w.2.2.2.2.2.2.2.2.1 = 1 ∨ w.2.2.2.2.2.2.2.2.1 = 2 ∨ w.2.2.2.2.2.2.2.2.1 = 3) := by
  obtain ⟨c, lg, W, BL, o, hSV, hS, hLm, hO, hC, hP, hQ, hRr, w25, w26, w27, w28, w29, w30, wst⟩ := hR
  exact ⟨w25, wst⟩
theorem m_counted (v : V12) {k : Nat} (hk : k < 29) : ∃ r2 : Int32, f_X12_counted v (nI k) = some r2 := by
  have : ∀ j, j < 29 → j = 0 ∨ j = 1 ∨ j = 2 ∨ j = 3 ∨ j = 4 ∨ j = 5 ∨ j = 6 ∨ j = 7 ∨ j = 8 ∨ j = 9 ∨ j = 10 ∨ j = 11 ∨ j = 12 ∨ j = 13 ∨ j = 14 ∨ j = 15 ∨ j = 16 ∨ j = 17 ∨ j = 18 ∨ j = 19 ∨ j = 20 ∨ j = 21 ∨ j = 22 ∨ j = 23 ∨ j = 24 ∨ j = 25 ∨ j = 26 ∨ j = 27 ∨ j = 28 := by omega
  rcases this k hk with h | h | h | h | h | h | h | h | h | h | h | h | h | h | h | h | h | h | h | h | h | h | h | h | h | h | h | h | h <;> subst h <;> exact ⟨_, rfl⟩
/-- the watch's copy, put back -/
theorem m_back {v v1 v2 : V12} {F2 : Nat → Int32} (c1 : ∀ j, j < 945 → v1.2.1 (945 * 4 + j) = v.2.1 (945 * 0 + j)) (c2 : ∀ j, j < 945 * 4 ∨ 945 * 4 + 945 ≤ j → v1.2.1 j = v.2.1 j) (d1 : ∀ j, 942 ≤ j → v2.2.1 j = v1.2.1 j) (e1 : ∀ j, j < 945 → F2 (945 * 0 + j) = v2.2.1 (945 * 4 + j)) (e2 : ∀ j, j < 945 * 0 ∨ 945 * 0 + 945 ≤ j → F2 j = v2.2.1 j) : ∀ j, j < 3780 → F2 j = v.2.1 j := by
  intro j hj
  by_cases h : j < 945
  · have q1 := e1 j h
    have q2 := d1 (945 * 4 + j) (by omega)
    have q3 := c1 j h
    rw [Nat.mul_zero, Nat.zero_add] at q1 q3
    rw [q1, q2, q3]
  · rw [e2 j (by omega), d1 j (by omega), c2 j (by omega)]
theorem q_ahead {B : Nat} {v0 : V11} {v : V12} (hR : R B v0.1 v.2.1) (hB : B + 400 < 2 ^ 30) (p1 p2 : Int32) : ∃ (r r2 : Int32) (u : V11) (v2 : V12), u.1 = v0.1 ∧ f_X11_ahead v0 p1 p2 = some (r, u) ∧ f_X12_ahead v p1 p2 = some (r2, v2) ∧ SA v v2 := by
  unfold f_X11_ahead f_X12_ahead
  by_cases a1 : p1 < 1
  · refine ⟨-1, -1, v0, (0, v.2), rfl, if_pos a1, ?_, fun _ _ => rfl, rfl, rfl⟩
    unfold f_X12_in
    rw [if_pos a1, bnd1_s, if_pos rfl]
  · have h0 : ¬ p1 < 0 := fun q => a1 (by
      rw [Int32.lt_iff_toInt_lt] at q ⊢
      rw [show (0 : Int32).toInt = 0 from rfl] at q
      rw [show (1 : Int32).toInt = 1 from rfl]
      omega)
    obtain ⟨n, hn, e⟩ := nI_of h0
    subst e
    have hn1 : 1 ≤ n := Nat.le_of_not_lt (fun q => a1 (nI_lt (b := 1) q (by decide)))
    have i1 : f_X12_in (nI n) 1 400 = some (if (decide (1 ≤ n) && decide (n ≤ 400)) = true then 1 else 0) := m_in2 (a := 1) (b := 400) (by decide) (by decide) hn
    rw [if_neg a1, i1, bnd1_s]
    by_cases a2 : n ≤ 400
    · rw [if_neg (show ¬ (400 : Int32) < nI n from nI_nlt (a := 400) a2 (by decide)), if_pos (in_dec ⟨hn1, a2⟩), if_neg (show ¬ (1 : Int32) = 0 by decide), show f_X12_in p2 0 28 = f_X12_in p2 0 (nI 29 - 1) from rfl]
      rcases in0 p2 (n := 29) (by decide) with ⟨k, k1, k2, k3⟩ | ⟨k1, k2⟩
      · rw [k3, bnd1_s, if_neg (show ¬ (1 : Int32) = 0 by decide), k2, if_neg (nI_pos (by omega)), if_pos (show nI k ≤ (28 : Int32) from nI_le (b := 28) (by omega) (by decide))]
        obtain ⟨w2, g1, g2, -, -⟩ := copy_rel v0.2.1 hR
        obtain ⟨F1, c0, c1, c2⟩ := m_copies (a := 0) (b := 4) (by decide) (by decide) (by decide) (0, v.2)
        have hR1 : R B w2 F1 := g2.frame (fun j hj => c2 j (by omega))
        obtain ⟨r, w3, v3, d1, d2, d3, d4, d5, d6, d7, d8⟩ := draws_rel (v := (0, F1, v.2.2)) hR1 a2 (by omega)
        obtain ⟨r4, hr4⟩ := x_count w3 (nI k)
        obtain ⟨r5, hr5⟩ := m_counted v3 k1
        obtain ⟨F4, f0, f1, f2⟩ := m_copies (a := 4) (b := 0) (by decide) (by decide) (by decide) v3
        rw [g1, bnd1_s, d1, bnd2_s, hr4, bnd1_s, show f_X12_copies ((0 : Int32), v.2) (0 : Int32) (4 : Int32) = _ from c0, bnd1_s]
        dsimp only
        rw [d2, bnd2_s, hr5, bnd1_s]
        unfold f_X12_back
        rw [show f_X12_copies v3 (4 : Int32) (0 : Int32) = _ from f0, bnd1_s, bnd2_s]
        exact ⟨r4, r5, (v0.1, w3, v0.2.2), (v3.1, F4, v3.2.2), rfl, rfl, rfl, m_back (v := (0, v.2)) (v1 := (0, F1, v.2.2)) (v2 := v3) c1 c2 d8 f1 f2, d5, d6⟩
      · rw [k2, bnd1_s, if_pos rfl]
        refine ⟨-1, -1, v0, (0, v.2), rfl, ?_, rfl, fun _ _ => rfl, rfl, rfl⟩
        rcases k1 with k1 | ⟨k, k3, k4, k5⟩
        · rw [if_pos k1]
        · rw [k5, if_neg (nI_pos k4), if_neg (show ¬ nI k ≤ (28 : Int32) from nI_ge (a := 28) (by omega) k4)]
    · exact ⟨-1, -1, v0, (0, v.2), rfl, if_pos (show (400 : Int32) < nI n from nI_lt (a := 400) (by omega) hn), if_pos (by rw [if_neg (in_ndec (by omega))]), fun _ _ => rfl, rfl, rfl⟩
theorem quiet_loop {B : Nat} {x : V11} {v1 : V12} (hB : B + 400 < 2 ^ 30) : ∀ (d f1 f2 k : Nat) (w : V10) (v : V12), k + d = 400 → d + 1 < f1 → d + 1 < f2 → R (B + k) w v.2.1 → w.2.2.2.2.2.2.2.2.1 ≠ 3 → (∀ j, 942 ≤ j → v.2.1 j = v1.2.1 j) → v.2.2.1 = v1.2.2.1 → v.2.2.2.1 = v1.2.2.2.1 → ∃ (r : Int32) (w2 : V10) (v3 v4 : V12), fb_X11_quiet_38 f1 (x.1, w, x.2.2) (nI (k + 1)) = some (r, (x.1, w2, x.2.2)) ∧ fb_X12_quiet_25 f2 v (nI k) = some (r, v4) ∧ f_X12_copies v3 4 0 = some v4 ∧ (∀ j, 942 ≤ j → v3.2.1 j = v1.2.1 j) ∧ v3.2.2.1 = v1.2.2.1 ∧ v3.2.2.2.1 = v1.2.2.2.1 := by
  have hend : ∀ (v : V12) (t : Int32), ∃ v4 : V12, fc_X12_quiet_72 v t = some (t, v4) ∧ f_X12_copies v 4 0 = some v4 := by
    intro v t
    obtain ⟨F4, f0, f1, f2⟩ := m_copies (a := 4) (b := 0) (by decide) (by decide) (by decide) v
    refine ⟨(v.1, F4, v.2.2), ?_, f0⟩
    unfold fc_X12_quiet_72 f_X12_back
    rw [show f_X12_copies v (4 : Int32) (0 : Int32) = _ from f0, bnd1_s, bnd2_s]
  have h25i : vp_in (25 : Int32) 4725 := by unfold vp_in; decide
  intro d
  induction d with
  | zero =>
    intro f1 f2 k w v hk hf1 hf2 hR hst h1 h2 h3
    obtain ⟨f1, rfl⟩ : ∃ m, f1 = m + 1 := ⟨f1 - 1, by omega⟩
    obtain ⟨f2, rfl⟩ : ∃ m, f2 = m + 1 := ⟨f2 - 1, by omega⟩
    obtain ⟨v4, q1, q2⟩ := hend v (-1)
    have hk : k = 400 := by omega
    subst hk
    refine ⟨-1, w, v, v4, ?_, ?_, q2, h1, h2, h3⟩
    · show fl_X11_quiet_38 (fb_X11_quiet_38 f1) _ _ = _
      unfold fl_X11_quiet_38
      rw [if_pos (by decide)]
    · show fl_X12_quiet_25 (fb_X12_quiet_25 f2) _ _ = _
      unfold fl_X12_quiet_25 fc_X12_quiet_55
      rw [if_pos (by decide), chk_in h25i, show ((25 : Int32)).toNatClampNeg = 25 from rfl, if_neg (show ¬ v.2.1 25 = (3 : Int32) by rw [hR.st25.1]; exact hst)]
      exact q1
  | succ d ih =>
    intro f1 f2 k w v hk hf1 hf2 hR hst h1 h2 h3
    obtain ⟨f1, rfl⟩ : ∃ m, f1 = m + 1 := ⟨f1 - 1, by omega⟩
    obtain ⟨f2, rfl⟩ : ∃ m, f2 = m + 1 := ⟨f2 - 1, by omega⟩
    obtain ⟨r, w2, v2, d1, d2, d3, d4, d5, d6, d7, d8⟩ := draws_rel hR (n := 1) (by decide) (by omega)
    have h1' : ∀ j, 942 ≤ j → v2.2.1 j = v1.2.1 j := fun j hj => (d8 j hj).trans (h1 j hj)
    have hX : fb_X11_quiet_38 (f1 + 1) (x.1, w, x.2.2) (nI (k + 1)) = if w2.2.2.2.2.2.2.2.2.1 = 3 then some (nI (k + 1), (x.1, w2, x.2.2)) else fb_X11_quiet_38 f1 (x.1, w2, x.2.2) (nI (k + 1 + 1)) := by
      show fl_X11_quiet_38 (fb_X11_quiet_38 f1) _ _ = _
      unfold fl_X11_quiet_38
      dsimp only
      rw [if_neg (show ¬ (400 : Int32) < nI (k + 1) from nI_nlt (a := 400) (by omega) (by decide)), show f_X10_drawMany w (1 : Int32) = _ from d1, bnd2_s, bnd_e, nI_1]
    have hM : fb_X12_quiet_25 (f2 + 1) v (nI k) = fb_X12_quiet_25 f2 v2 (nI (k + 1)) := by
      show fl_X12_quiet_25 (fb_X12_quiet_25 f2) _ _ = _
      unfold fl_X12_quiet_25
      rw [if_neg (show ¬ (400 : Int32) ≤ nI k from nI_ge (b := 400) (by omega) (by decide)), chk_in h25i, show ((25 : Int32)).toNatClampNeg = 25 from rfl, if_neg (show ¬ v.2.1 25 = (3 : Int32) by rw [hR.st25.1]; exact hst), show f_X12_draws v (1 : Int32) = _ from d2, bnd2_s, bnd_e, nI_1]
    rw [hX, hM]
    by_cases h : w2.2.2.2.2.2.2.2.2.1 = 3
    · rw [if_pos h]
      obtain ⟨f2, rfl⟩ : ∃ m, f2 = m + 1 := ⟨f2 - 1, by omega⟩
      obtain ⟨v4, q1, q2⟩ := hend v2 (nI (k + 1))
      refine ⟨nI (k + 1), w2, v2, v4, rfl, ?_, q2, h1', d5.trans h2, d6.trans h3⟩
      have h25 : v2.2.1 25 = 3 := by rw [d3.st25.1]; exact h
      have h55 : fc_X12_quiet_55 v2 (nI (k + 1)) = some (nI (k + 1), v4) := by
        unfold fc_X12_quiet_55
        rw [chk_in h25i, show ((25 : Int32)).toNatClampNeg = 25 from rfl, if_pos h25]
        exact q1
      show fl_X12_quiet_25 (fb_X12_quiet_25 f2) _ _ = _
      unfold fl_X12_quiet_25
      by_cases h4 : (400 : Int32) ≤ nI (k + 1)
      · rw [if_pos h4, h55]
      · rw [if_neg h4, chk_in h25i, show ((25 : Int32)).toNatClampNeg = 25 from rfl, if_pos h25, h55]
    · rw [if_neg h]
      exact ih f1 f2 (k + 1) w2 v2 (by omega) (by omega) (by omega) d3 h h1' (d5.trans h2) (d6.trans h3)
theorem q_quiet {B : Nat} {v0 : V11} {v : V12} (hR : R B v0.1 v.2.1) (hB : B + 400 < 2 ^ 30) : ∃ (r : Int32) (u : V11) (v2 : V12), u.1 = v0.1 ∧ f_X11_quiet v0 = some (r, u) ∧ f_X12_quiet v = some (r, v2) ∧ SA v v2 := by
  obtain ⟨h25, -⟩ := hR.st25
  have h25i : vp_in (25 : Int32) 4725 := by unfold vp_in; decide
  obtain ⟨w2, g1, g2, -, -⟩ := copy_rel v0.2.1 hR
  obtain ⟨F1, c0, c1, c2⟩ := m_copies (a := 0) (b := 4) (by decide) (by decide) (by decide) (0, v.2)
  have hR1 : R B w2 F1 := g2.frame (fun j hj => c2 j (by omega))
  have hM : v.2.1 25 ≠ 0 → f_X12_quiet v = fb_X12_quiet_25 FU (0, F1, v.2.2) (nI 0) := by
    intro h
    unfold f_X12_quiet
    rw [chk_in h25i, show ((25 : Int32)).toNatClampNeg = 25 from rfl, if_neg h, show f_X12_copies ((0 : Int32), v.2) (0 : Int32) (4 : Int32) = _ from c0, bnd1_s]
    rfl
  unfold f_X11_quiet
  by_cases h3 : v0.1.2.2.2.2.2.2.2.2.1 = 3
  · rw [if_pos h3, hM (by rw [h25, h3]; decide)]
    obtain ⟨F4, f0, f1, f2⟩ := m_copies (a := 4) (b := 0) (by decide) (by decide) (by decide) (0, F1, v.2.2)
    have h25' : F1 25 = 3 := by rw [c2 25 (by omega)]; exact h25.trans h3
    refine ⟨0, v0, (0, F4, v.2.2), rfl, rfl, ?_, m_back (v := (0, v.2)) (v1 := (0, F1, v.2.2)) (v2 := (0, F1, v.2.2)) c1 c2 (fun _ _ => rfl) f1 f2, rfl, rfl⟩
    show fl_X12_quiet_25 (fb_X12_quiet_25 8589934591) _ _ = _
    unfold fl_X12_quiet_25 fc_X12_quiet_55 fc_X12_quiet_72 f_X12_back
    dsimp only
    rw [if_neg (by decide), chk_in h25i, show ((25 : Int32)).toNatClampNeg = 25 from rfl, if_pos h25', chk_in h25i, if_pos h25', show f_X12_copies ((0 : Int32), F1, v.2.2) (4 : Int32) (0 : Int32) = _ from f0, bnd1_s, bnd2_s]
    rfl
  · rw [if_neg h3]
    by_cases h0 : v0.1.2.2.2.2.2.2.2.2.1 = 0
    · rw [if_pos h0]
      refine ⟨-1, v0, (0, v.2), rfl, rfl, ?_, fun _ _ => rfl, rfl, rfl⟩
      unfold f_X12_quiet
      rw [chk_in h25i, show ((25 : Int32)).toNatClampNeg = 25 from rfl, if_pos (h25.trans h0)]
    · rw [if_neg h0, hM (by rw [h25]; exact h0), g1, bnd1_s]
      have hst : w2.2.2.2.2.2.2.2.2.1 ≠ 3 := by
        have := hR1.st25.1
        rw [← this, c2 25 (by omega)]
        show v.2.1 25 ≠ 3
        rw [h25]; exact h3
      obtain ⟨r, w3, v3, v4, q1, q2, q3, q4, q5, q6⟩ := quiet_loop (B := B) (x := v0) (v1 := (0, F1, v.2.2)) hB 400 FU FU 0 w2 (0, F1, v.2.2) (by omega) (by decide) (by decide) hR1 hst (fun _ _ => rfl) rfl rfl
      obtain ⟨F4, f0, f1, f2⟩ := m_copies (a := 4) (b := 0) (by decide) (by decide) (by decide) v3
      have e4 : v4 = (v3.1, F4, v3.2.2) := Option.some.inj (q3.symm.trans f0)
      subst e4
      exact ⟨r, (v0.1, w3, v0.2.2), (v3.1, F4, v3.2.2), rfl, q1, q2, m_back (v := (0, v.2)) (v1 := (0, F1, v.2.2)) (v2 := v3) c1 c2 q4 f1 f2, q5, q6⟩
end AH
end mp_69_ah
section mp_70_al
section AL
theorem R.virt {B : Nat} {w : V10} {F : Nat → Int32} (hR : R B w F) {c lg : Nat} (c1 : 8 ≤ c) (c2 : c ≤ 15) (l1 : 1 ≤ lg) (l2 : lg ≤ 40) : ∃ W : Nat, 4 ≤ W ∧ W ≤ 15 ∧ w.1.1 2 = nI W ∧ R B ((upd (upd w.1.1 0 (nI c)) 1 (nI lg), w.1.2), (w.2.1.1, w.2.1.2.1, nI (lmR c lg), nI (lmP c lg W), nI (lmC lg W)), w.2.2.1, w.2.2.2.1, w.2.2.2.2.1, w.2.2.2.2.2.1, w.2.2.2.2.2.2.1, w.2.2.2.2.2.2.2.1, w.2.2.2.2.2.2.2.2.1, w.2.2.2.2.2.2.2.2.2.1, 0, w.2.2.2.2.2.2.2.2.2.2.2.1, w.2.2.2.2.2.2.2.2.2.2.2.2.1, w.2.2.2.2.2.2.2.2.2.2.2.2.2) (upd (upd (upd F 0 (nI c)) 1 (nI lg)) 27 0) := by
  obtain ⟨c0, lg0, W, BL, o, hSV, hS, hLm, hO, hC, hP, hQ, hRr, w25, w26, w27, w28, w29, w30, wst⟩ := hR
  obtain ⟨g0, g1, g2, g3, g4, g5, g6, g7, g8, g9, g10, g11, g12, g13, g14⟩ := hSV
  have e : ∀ j, j ≠ 0 → j ≠ 1 → j ≠ 27 → upd (upd (upd F 0 (nI c)) 1 (nI lg)) 27 0 j = F j := fun j h0 h1 h2 => by
    rw [upd_n h2, upd_n h1, upd_n h0]
  refine ⟨W, g7, g8, g6, c, lg, W, BL, o, ⟨?_, c1, c2, ?_, l1, l2, ?_, g7, g8, ?_, g10, g11, ?_, g13, g14⟩, ⟨fun k hk => ?_, ?_⟩, ⟨rfl, rfl, rfl⟩, hO.frame (fun j a1 a2 => e j (by omega) (by omega) (by omega)), hC.frame (fun j a1 a2 => e j (by omega) (by omega) (by omega)), hP.frame (fun j a1 a2 => e j (by omega) (by omega) (by omega)), hQ.frame (fun j hj => e j (by omega) (by omega) (by omega)), hRr.frame (fun j a1 a2 => e j (by omega) (by omega) (by omega)), ?_, ?_, ?_, ?_, ?_, fun h => ⟨?_, ?_⟩, wst⟩
  · show upd (upd w.1.1 0 (nI c)) 1 (nI lg) 0 = _
    rw [upd_n (by decide), upd_s]
  · show upd (upd w.1.1 0 (nI c)) 1 (nI lg) 1 = _
    rw [upd_s]
  · show upd (upd w.1.1 0 (nI c)) 1 (nI lg) 2 = _
    rw [upd_n (by decide), upd_n (by decide)]; exact g6
  · show upd (upd w.1.1 0 (nI c)) 1 (nI lg) 4 = _
    rw [upd_n (by decide), upd_n (by decide)]; exact g9
  · show upd (upd w.1.1 0 (nI c)) 1 (nI lg) 5 = _
    rw [upd_n (by decide), upd_n (by decide)]; exact g12
  · show upd (upd (upd F 0 (nI c)) 1 (nI lg)) 27 0 k = upd (upd w.1.1 0 (nI c)) 1 (nI lg) k
    rw [upd_n (show k ≠ 27 by omega)]
    by_cases h1 : k = 1
    · rw [h1, upd_s, upd_s]
    · rw [upd_n h1, upd_n h1]
      by_cases h0 : k = 0
      · rw [h0, upd_s, upd_s]
      · rw [upd_n h0, upd_n h0]; exact hS.1 k hk
  · obtain ⟨n, n1, n2, n3, n4⟩ := hS.2
    refine ⟨n, n1, n2, by rw [e 9 (by omega) (by omega) (by omega)]; exact n3, fun k hk => ?_⟩
    rw [e (10 + 3 * k) (by omega) (by omega) (by omega), e (11 + 3 * k) (by omega) (by omega) (by omega), e (12 + 3 * k) (by omega) (by omega) (by omega)]
    exact n4 k hk
  · rw [e 25 (by omega) (by omega) (by omega)]; exact w25
  · rw [e 26 (by omega) (by omega) (by omega)]; exact w26
  · exact upd_s _ _ _
  · rw [e 28 (by omega) (by omega) (by omega)]; exact w28
  · rw [e 29 (by omega) (by omega) (by omega)]; exact w29
  · rw [e 30 (by omega) (by omega) (by omega)]; exact (w30 h).1
  · rw [e 701 (by omega) (by omega) (by omega)]; exact (w30 h).2
theorem alarms_loop {v1 : V12} {H : Nat} (hH : H ≤ 400) (hbit : ∀ k, k < H → isb (v1.2.1 (4081 + k))) : ∀ (d fu k B : Nat) (w : V10) (v : V12), k + d = H → d < fu → R B w v.2.1 → LimM v w → B + d < 2 ^ 30 → (∀ j, 942 ≤ j → v.2.1 j = v1.2.1 j) → v.2.2.1 = v1.2.2.1 → v.2.2.2.1 = v1.2.2.2.1 → ∃ (r : Int32) (v3 v4 : V12), fb_X12_alarms_48 fu v (nI H) (nI k) = some (r, v4) ∧ f_X12_copies v3 4 0 = some v4 ∧ (∀ j, 942 ≤ j → v3.2.1 j = v1.2.1 j) ∧ v3.2.2.1 = v1.2.2.1 ∧ v3.2.2.2.1 = v1.2.2.2.1 := by
  intro d
  induction d with
  | zero =>
    intro fu k B w v hk hf hR hL hB h1 h2 h3
    obtain ⟨fu, rfl⟩ : ∃ m, fu = m + 1 := ⟨fu - 1, by omega⟩
    obtain ⟨F4, f0, f1, f2⟩ := m_copies (a := 4) (b := 0) (by decide) (by decide) (by decide) v
    refine ⟨v.2.1 27, v, (v.1, F4, v.2.2), ?_, f0, h1, h2, h3⟩
    show fl_X12_alarms_48 (fb_X12_alarms_48 fu) _ _ _ = _
    unfold fl_X12_alarms_48 f_X12_back
    rw [if_pos (nI_le (by omega) (by omega)), chk_in (show vp_in (27 : Int32) 4725 by unfold vp_in; decide), show ((27 : Int32)).toNatClampNeg = 27 from rfl, show f_X12_copies v (4 : Int32) (0 : Int32) = _ from f0, bnd1_s, bnd2_s]
  | succ d ih =>
    intro fu k B w v hk hf hR hL hB h1 h2 h3
    obtain ⟨fu, rfl⟩ : ∃ m, fu = m + 1 := ⟨fu - 1, by omega⟩
    have hb : isb (v.2.1 (4081 + k)) := by rw [h1 (4081 + k) (by omega)]; exact hbit k (by omega)
    obtain ⟨r, w2, F2, b1, b2, b3, b4, b5, b6, b7, b8, b9⟩ := hear_rel hR hL hb (by omega)
    show ∃ (r : Int32) (v3 v4 : V12), fl_X12_alarms_48 (fb_X12_alarms_48 fu) v (nI H) (nI k) = some (r, v4) ∧ f_X12_copies v3 4 0 = some v4 ∧ (∀ j, 942 ≤ j → v3.2.1 j = v1.2.1 j) ∧ v3.2.2.1 = v1.2.2.1 ∧ v3.2.2.2.1 = v1.2.2.2.1
    unfold fl_X12_alarms_48
    rw [if_neg (nI_ge (by omega) (by omega)), show (4081 : Int32) + nI k = nI (4081 + k) from nI_add 4081 k, chk_nI (by omega) (by decide), nI_clamp (by omega), bnd_e, b2, bnd2_s, chk_in (show vp_in (25 : Int32) 4725 by unfold vp_in; decide), show ((25 : Int32)).toNatClampNeg = 25 from rfl]
    dsimp only
    have hL2 : LimM (v.1, F2, v.2.2) w2 := LimM_of hL b4 b5 rfl
    have h1' : ∀ j, 942 ≤ j → F2 j = v1.2.1 j := fun j hj => (b8 j hj).trans (h1 j hj)
    by_cases h : F2 25 = 3
    · obtain ⟨w3, F3, s1, s2, s3, s4, s5, s6, s7, s8, s9, s10, s11, s12⟩ := starts_rel (v := (v.1, F2, v.2.2)) b3
      rw [if_pos h, s2, bnd1_s, bnd_e, nI_1]
      exact ih fu (k + 1) (B + 1) w3 (v.1, F3, v.2.2) (by omega) (by omega) s3 (LimM_of hL2 s4 s5 rfl) (by omega) (fun j hj => (s12 j hj).trans (h1' j hj)) h2 h3
    · rw [if_neg h, bnd_e, nI_1]
      exact ih fu (k + 1) (B + 1) w2 (v.1, F2, v.2.2) (by omega) (by omega) b3 hL2 (by omega) h1' h2 h3
theorem alarms_ok {B : Nat} {w : V10} {v : V12} (hR : R B w v.2.1) (hB : B + 400 < 2 ^ 30) {c lg : Nat} (c1 : 8 ≤ c) (c2 : c ≤ 15) (l1 : 1 ≤ lg) (l2 : lg ≤ 40) : ∃ (r : Int32) (v2 : V12), f_X12_alarms v (nI c) (nI lg) = some (r, v2) ∧ SA v v2 := by
  obtain ⟨F1, p0, p1, p2⟩ := m_copies (a := 0) (b := 4) (by decide) (by decide) (by decide) v
  have hR1 : R B w F1 := hR.frame (fun j hj => p2 j (by omega))
  obtain ⟨W, w1, w2, w3, hV⟩ := hR1.virt c1 c2 l1 l2
  obtain ⟨v1, q1, q2, q3, q4, q5, q6⟩ := lays2 (v := (v.1, upd (upd (upd F1 0 (nI c)) 1 (nI lg)) 27 0, v.2.2)) hV
  have hV2 := hV
  rw [show upd (upd (upd F1 0 (nI c)) 1 (nI lg)) 27 0 = v1.2.1 from q4.symm] at hV2
  obtain ⟨w4, F3, s1, s2, s3, s4, s5, s6, s7, s8, s9, s10, s11, s12⟩ := starts_rel hV2
  obtain ⟨-, -, -, -, -, -, -, -, -, -, -, hQ, -⟩ := hR
  obtain ⟨H, h, h1, h2, h3, h4, h5, h6⟩ := hQ
  have hc : ∀ j, 942 ≤ j → F3 j = F1 j := fun j hj => by
    rw [s12 j hj, q4]
    show upd (upd (upd F1 0 (nI c)) 1 (nI lg)) 27 0 j = F1 j
    rw [upd_n (by omega), upd_n (by omega), upd_n (by omega)]
  have hbit : ∀ k, k < H → isb (F1 (4081 + k)) := fun k hk => by
    have e1 := p1 (301 + k) (by omega)
    rw [show 945 * 4 + (301 + k) = 4081 + k by omega, show 945 * 0 + (301 + k) = 301 + k by omega] at e1
    rw [e1]
    exact (h6 k hk).2
  obtain ⟨r, v3, v4, a1, a2, a3, a4, a5⟩ := alarms_loop (v1 := (v.1, F1, v.2.2)) h1 hbit H FU 0 B w4 (v1.1, F3, v1.2.2) (by omega) (by show H < 8589934592; omega) s3 (LimM_of q2 s4 s5 rfl) (by omega) hc q5 q6
  obtain ⟨F4, f0, f1, f2⟩ := m_copies (a := 4) (b := 0) (by decide) (by decide) (by decide) v3
  have e4 : v4 = (v3.1, F4, v3.2.2) := Option.some.inj (a2.symm.trans f0)
  subst e4
  refine ⟨r, (v3.1, F4, v3.2.2), ?_, m_back (v := v) (v1 := (v.1, F1, v.2.2)) (v2 := v3) p1 p2 a3 f1 f2, a4, a5⟩
  unfold f_X12_alarms
  rw [show f_X12_copies v (0 : Int32) (4 : Int32) = _ from p0, bnd1_s, chk_in (show vp_in (300 : Int32) 4725 by unfold vp_in; decide), bnd_e, chk_in (show vp_in (0 : Int32) 4725 by unfold vp_in; decide), bnd_e, chk_in (show vp_in (1 : Int32) 4725 by unfold vp_in; decide), bnd_e, chk_in (show vp_in (27 : Int32) 4725 by unfold vp_in; decide), bnd_e, show ((300 : Int32)).toNatClampNeg = 300 from rfl, show ((0 : Int32)).toNatClampNeg = 0 from rfl, show ((1 : Int32)).toNatClampNeg = 1 from rfl, show ((27 : Int32)).toNatClampNeg = 27 from rfl]
  dsimp only
  rw [q1, bnd1_s, s2, bnd1_s, p2 300 (by omega), h5]
  exact a1
theorem x_hear100 (v : V1) (x t : Int32) : ∃ c2 : V1, fc_X1_hear_100 v x t = some c2 := by
  unfold fc_X1_hear_100
  rw [bnd_e]
  exact ⟨_, rfl⟩
theorem x_hear74 (v : V1) (x : Int32) : ∃ c2 : V1, fc_X1_hear_74 v x = some c2 := by
  unfold fc_X1_hear_74 fc_X1_hear_99
  by_cases h : v.1 ≤ 0
  · rw [if_pos h]; exact x_hear100 _ _ _
  · rw [if_neg h]
    by_cases h2 : x = v.2.1
    · rw [if_pos h2]; exact x_hear100 _ _ _
    · rw [if_neg h2]; exact x_hear100 _ _ _
theorem x_hear56 (v : V1) (x : Int32) : ∃ c2 : V1, fc_X1_hear_56 v x = some c2 := by
  unfold fc_X1_hear_56
  by_cases h : x = v.2.2.2.1
  · rw [if_pos h, bnd_e]; exact x_hear74 _ _
  · rw [if_neg h]; exact x_hear74 _ _
theorem x_hear23 (v : V1) (x : Int32) : ∃ c2 : V1, fc_X1_hear_23 v x = some c2 := by
  unfold fc_X1_hear_23
  by_cases h : v.2.2.1 = 0
  · rw [if_pos h]; exact x_hear56 _ _
  · rw [if_neg h]
    by_cases h2 : x = v.2.1
    · rw [if_pos h2]; exact x_hear56 _ _
    · rw [if_neg h2, bnd_e]; exact x_hear56 _ _
theorem x_hearO (v : V1) (x y : Int32) : ∃ c2 : V1, f_X1_hear v x y = some c2 := by
  unfold f_X1_hear
  by_cases h : v.2.2.1 < y
  · rw [if_pos h]; exact x_hear23 _ _
  · rw [if_neg h]; exact x_hear23 _ _
theorem x_fail32 (L : V2) (c : V1) (x : Int32) : ∃ r : Int32, fc_X2_failures_32 L c x = some r := by
  unfold fc_X2_failures_32
  by_cases h : c.2.2.2.2.2 < L.2.2.2.2
  · rw [if_pos h]; exact ⟨_, rfl⟩
  · rw [if_neg h, bnd_e]; exact ⟨_, rfl⟩
theorem x_fail16 (L : V2) (c : V1) (x : Int32) : ∃ r : Int32, fc_X2_failures_16 L c x = some r := by
  unfold fc_X2_failures_16
  by_cases h : c.2.2.2.2.1 < L.2.2.2.1
  · rw [if_pos h]; exact x_fail32 _ _ _
  · rw [if_neg h, bnd_e]; exact x_fail32 _ _ _
theorem x_failO (L : V2) (c : V1) : ∃ r : Int32, f_X2_failures L c = some r := by
  unfold f_X2_failures
  by_cases h : c.1 < L.2.2.1
  · rw [if_pos h]; exact x_fail16 _ _ _
  · rw [if_neg h]; exact x_fail16 _ _ _
theorem x_replay {w : V10} {H : Nat} (hH : H ≤ 400) (hlen : w.2.2.2.2.2.1.2.2 = nI H) (hat : ∀ k, k < H → ∃ b : Int32, f_X4_bitAt w.2.2.2.2.2.1 (nI k) = some b) (x2 : Int32) : ∀ (d fu k : Nat) (x3 : Int32) (v0 : V11), v0.1 = w → k + d = H → d < fu → ∃ (r : Int32) (u : V11), fb_X11_replayed_64 fu v0 x2 x3 (nI k) = some (r, u) ∧ u.1 = w := by
  intro d
  induction d with
  | zero =>
    intro fu k x3 v0 hw hk hf
    obtain ⟨fu, rfl⟩ : ∃ m, fu = m + 1 := ⟨fu - 1, by omega⟩
    refine ⟨x3, v0, ?_, hw⟩
    show fl_X11_replayed_64 (fb_X11_replayed_64 fu) _ _ _ _ = _
    unfold fl_X11_replayed_64
    rw [hw, hlen, if_pos (nI_le (by omega) (by omega))]
  | succ d ih =>
    intro fu k x3 v0 hw hk hf
    obtain ⟨fu, rfl⟩ : ∃ m, fu = m + 1 := ⟨fu - 1, by omega⟩
    show ∃ (r : Int32) (u : V11), fl_X11_replayed_64 (fb_X11_replayed_64 fu) v0 x2 x3 (nI k) = some (r, u) ∧ u.1 = w
    unfold fl_X11_replayed_64 f_X1_clear
    obtain ⟨b, hb⟩ := hat k (by omega)
    obtain ⟨c2, hc⟩ := x_hearO v0.2.2.2.2.2.2.1 b x2
    obtain ⟨f, hf2⟩ := x_failO v0.2.2.2.2.2.1 c2
    rw [hw, hlen, if_neg (nI_ge (by omega) (by omega)), hb, bnd1_s, hc, bnd1_s, hf2, bnd1_s]
    by_cases h : f = 0
    · rw [if_pos h, bnd_e, nI_1]
      exact ih fu (k + 1) x3 _ rfl (by omega) (by omega)
    · rw [if_neg h, bnd_e, bnd1_s, bnd_e, nI_1]
      exact ih fu (k + 1) _ _ rfl (by omega) (by omega)
theorem x_peaks {w : V10} {H : Nat} (hH : H ≤ 400) (hlen : w.2.2.2.2.2.1.2.2 = nI H) (hat : ∀ k, k < H → ∃ b : Int32, f_X4_bitAt w.2.2.2.2.2.1 (nI k) = some b) : ∀ (d fu k : Nat) (v0 : V11), v0.1 = w → k + d = H → d < fu → ∃ u : V11, fb_X11_measurePeaks_16 fu v0 (nI k) = some u ∧ u.1 = w := by
  intro d
  induction d with
  | zero =>
    intro fu k v0 hw hk hf
    obtain ⟨fu, rfl⟩ : ∃ m, fu = m + 1 := ⟨fu - 1, by omega⟩
    refine ⟨v0, ?_, hw⟩
    show fl_X11_measurePeaks_16 (fb_X11_measurePeaks_16 fu) _ _ = _
    unfold fl_X11_measurePeaks_16
    rw [hw, hlen, if_pos (nI_le (by omega) (by omega))]
  | succ d ih =>
    intro fu k v0 hw hk hf
    obtain ⟨fu, rfl⟩ : ∃ m, fu = m + 1 := ⟨fu - 1, by omega⟩
    show ∃ u : V11, fl_X11_measurePeaks_16 (fb_X11_measurePeaks_16 fu) v0 (nI k) = some u ∧ u.1 = w
    unfold fl_X11_measurePeaks_16 f_X1_raiseTo
    obtain ⟨b, hb⟩ := hat k (by omega)
    obtain ⟨c2, hc⟩ := x_hearO v0.2.2.2.2.2.2.1 b (w.1.1 2)
    rw [hw, hlen, if_neg (nI_ge (by omega) (by omega)), hb, bnd1_s, show f_X7_valueOf w.1 (2 : Int32) = f_X7_valueOf w.1 (nI 2) from rfl, val_nI _ (by decide), bnd1_s, hc, bnd1_s, bnd_e, bnd_e, bnd_e, bnd1_s, bnd_e, nI_1]
    exact ih fu (k + 1) _ rfl (by omega) (by omega)
theorem x_pass {v0 : V11} {c lg W : Nat} (hW : v0.1.1.1 2 = nI W) (c1 : 8 ≤ c) (c2 : c ≤ 15) (l1 : 1 ≤ lg) (l2 : lg ≤ 40) (w1 : 4 ≤ W) (w2 : W ≤ 15) : ∃ (r : Int32) (u : V11), f_X11_peaksPass v0 (nI c) (nI lg) = some (r, u) ∧ u.1 = v0.1 := by
  unfold f_X11_peaksPass
  obtain ⟨T, tr, ht⟩ := x_lims v0.2.2.2.2.2.1 c1 c2 l1 l2 w1 w2
  rw [show f_X7_valueOf v0.1.1 (2 : Int32) = f_X7_valueOf v0.1.1 (nI 2) from rfl, val_nI _ (by decide), bnd1_s, hW, ht, bnd1_s]
  obtain ⟨f, hf⟩ := x_failO (T, tr, nI (lmR c lg), nI (lmP c lg W), nI (lmC lg W)) v0.2.2.2.2.2.2.2
  rw [hf, bnd1_s]
  by_cases h : f = 0
  · exact ⟨1, (v0.1, v0.2.1, v0.2.2.1, v0.2.2.2.1, v0.2.2.2.2.1, (T, tr, nI (lmR c lg), nI (lmP c lg W), nI (lmC lg W)), v0.2.2.2.2.2.2), if_pos h, rfl⟩
  · exact ⟨0, (v0.1, v0.2.1, v0.2.2.1, v0.2.2.2.1, v0.2.2.2.2.1, (T, tr, nI (lmR c lg), nI (lmP c lg W), nI (lmC lg W)), v0.2.2.2.2.2.2), if_neg h, rfl⟩
theorem x_fitl {w : V10} {W lg : Nat} (hW : w.1.1 2 = nI W) (hl : w.1.1 1 = nI lg) (l1 : 1 ≤ lg) (l2 : lg ≤ 40) (w1 : 4 ≤ W) (w2 : W ≤ 15) : ∀ (d fu k : Nat) (v0 : V11), v0.1 = w → k + d = 16 → 8 ≤ k → d < fu → ∃ (r : Int32) (u : V11), fb_X11_fit_10 fu v0 (nI k) = some (r, u) ∧ u.1 = w := by
  intro d
  induction d with
  | zero =>
    intro fu k v0 hw hk h8 hf
    obtain ⟨fu, rfl⟩ : ∃ m, fu = m + 1 := ⟨fu - 1, by omega⟩
    have hk : k = 16 := by omega
    subst hk
    refine ⟨-1, v0, ?_, hw⟩
    show fl_X11_fit_10 (fb_X11_fit_10 fu) _ _ = _
    unfold fl_X11_fit_10
    rw [chk_in (show vp_in (0 : Int32) 9 by unfold vp_in; decide), if_pos (by decide)]
  | succ d ih =>
    intro fu k v0 hw hk h8 hf
    obtain ⟨fu, rfl⟩ : ∃ m, fu = m + 1 := ⟨fu - 1, by omega⟩
    show ∃ (r : Int32) (u : V11), fl_X11_fit_10 (fb_X11_fit_10 fu) v0 (nI k) = some (r, u) ∧ u.1 = w
    unfold fl_X11_fit_10
    obtain ⟨r, u, u1, u2⟩ := x_pass (v0 := v0) (c := k) (lg := lg) (by rw [hw]; exact hW) h8 (by omega) l1 l2 w1 w2
    rw [chk_in (show vp_in (0 : Int32) 9 by unfold vp_in; decide), if_neg (show ¬ stM ((0 : Int32)).toNatClampNeg < nI k from nI_nlt (a := 15) (by omega) (by decide)), show f_X7_valueOf v0.1.1 (1 : Int32) = f_X7_valueOf v0.1.1 (nI 1) from rfl, val_nI _ (by decide), bnd1_s, show v0.1.1.1 1 = nI lg by rw [hw]; exact hl, u1, bnd2_s]
    by_cases h : r = 0
    · rw [if_pos h, bnd_e, nI_1]
      exact ih fu (k + 1) _ (u2.trans hw) (by omega) (by omega) (by omega)
    · rw [if_neg h]
      exact ⟨_, _, rfl, u2.trans hw⟩
theorem x_keenl {w : V10} {W c : Nat} (hW : w.1.1 2 = nI W) (hc : w.1.1 0 = nI c) (c1 : 8 ≤ c) (c2 : c ≤ 15) (w1 : 4 ≤ W) (w2 : W ≤ 15) : ∀ (d fu k : Nat) (v0 : V11), v0.1 = w → k + d = 41 → 1 ≤ k → d < fu → ∃ (r : Int32) (u : V11), fb_X11_keen_10 fu v0 (nI k) = some (r, u) ∧ u.1 = w := by
  intro d
  induction d with
  | zero =>
    intro fu k v0 hw hk h8 hf
    obtain ⟨fu, rfl⟩ : ∃ m, fu = m + 1 := ⟨fu - 1, by omega⟩
    have hk : k = 41 := by omega
    subst hk
    refine ⟨-1, v0, ?_, hw⟩
    show fl_X11_keen_10 (fb_X11_keen_10 fu) _ _ = _
    unfold fl_X11_keen_10
    rw [chk_in (show vp_in (1 : Int32) 9 by unfold vp_in; decide), if_pos (by decide)]
  | succ d ih =>
    intro fu k v0 hw hk h8 hf
    obtain ⟨fu, rfl⟩ : ∃ m, fu = m + 1 := ⟨fu - 1, by omega⟩
    show ∃ (r : Int32) (u : V11), fl_X11_keen_10 (fb_X11_keen_10 fu) v0 (nI k) = some (r, u) ∧ u.1 = w
    unfold fl_X11_keen_10
    obtain ⟨r, u, u1, u2⟩ := x_pass (v0 := v0) (c := c) (lg := k) (by rw [hw]; exact hW) c1 c2 h8 (by omega) w1 w2
    rw [chk_in (show vp_in (1 : Int32) 9 by unfold vp_in; decide), if_neg (show ¬ stM ((1 : Int32)).toNatClampNeg < nI k from nI_nlt (a := 40) (by omega) (by decide)), show f_X7_valueOf v0.1.1 (0 : Int32) = f_X7_valueOf v0.1.1 (nI 0) from rfl, val_nI _ (by decide), bnd1_s, show v0.1.1.1 0 = nI c by rw [hw]; exact hc, u1, bnd2_s]
    by_cases h : r = 0
    · rw [if_pos h, bnd_e, nI_1]
      exact ih fu (k + 1) _ (u2.trans hw) (by omega) (by omega) (by omega)
    · rw [if_neg h]
      exact ⟨_, _, rfl, u2.trans hw⟩
theorem SA.trans {v1 v2 v3 : V12} (h : SA v1 v2) (h' : SA v2 v3) : SA v1 v3 := ⟨fun j hj => (h'.1 j hj).trans (h.1 j hj), h'.2.1.trans h.2.1, h'.2.2.trans h.2.2⟩
theorem m_fitl {B : Nat} {w : V10} (hB : B + 400 < 2 ^ 30) : ∀ (d fu k : Nat) (v : V12), R B w v.2.1 → k + d = 16 → 8 ≤ k → d < fu → ∃ (r : Int32) (v2 : V12), fb_X12_fit_8 fu v (nI k) = some (r, v2) ∧ SA v v2 := by
  intro d
  induction d with
  | zero =>
    intro fu k v hR hk h8 hf
    obtain ⟨fu, rfl⟩ : ∃ m, fu = m + 1 := ⟨fu - 1, by omega⟩
    have hk : k = 16 := by omega
    subst hk
    refine ⟨-1, v, ?_, fun _ _ => rfl, rfl, rfl⟩
    show fl_X12_fit_8 (fb_X12_fit_8 fu) _ _ = _
    unfold fl_X12_fit_8
    rw [if_pos (by decide)]
  | succ d ih =>
    intro fu k v hR hk h8 hf
    obtain ⟨fu, rfl⟩ : ∃ m, fu = m + 1 := ⟨fu - 1, by omega⟩
    show ∃ (r : Int32) (v2 : V12), fl_X12_fit_8 (fb_X12_fit_8 fu) v (nI k) = some (r, v2) ∧ SA v v2
    unfold fl_X12_fit_8
    have hR0 := hR
    obtain ⟨c, lg, W, BL, o, hSV, hS, -⟩ := hR0
    obtain ⟨f0, f1, -⟩ := hSV.cells hS
    obtain ⟨g0, g1, g2, g3, g4, g5, -⟩ := hSV
    obtain ⟨r, v2, a1, a2⟩ := alarms_ok hR hB (c := k) (lg := lg) h8 (by omega) g4 g5
    rw [if_neg (show ¬ (16 : Int32) ≤ nI k from nI_ge (b := 16) (by omega) (by decide)), chk_in (show vp_in (1 : Int32) 4725 by unfold vp_in; decide), show ((1 : Int32)).toNatClampNeg = 1 from rfl, f1, a1, bnd2_s]
    by_cases h : r = 0
    · rw [if_pos h]; exact ⟨_, v2, rfl, a2⟩
    · rw [if_neg h, bnd_e, nI_1]
      obtain ⟨r2, v3, i1, i2⟩ := ih fu (k + 1) v2 (hR.frame (fun j hj => a2.1 j (by omega))) (by omega) (by omega) (by omega)
      exact ⟨r2, v3, i1, a2.trans i2⟩
theorem m_keenl {B : Nat} {w : V10} (hB : B + 400 < 2 ^ 30) : ∀ (d fu k : Nat) (v : V12), R B w v.2.1 → k + d = 41 → 1 ≤ k → d < fu → ∃ (r : Int32) (v2 : V12), fb_X12_keen_7 fu v (nI k) = some (r, v2) ∧ SA v v2 := by
  intro d
  induction d with
  | zero =>
    intro fu k v hR hk h8 hf
    obtain ⟨fu, rfl⟩ : ∃ m, fu = m + 1 := ⟨fu - 1, by omega⟩
    have hk : k = 41 := by omega
    subst hk
    refine ⟨-1, v, ?_, fun _ _ => rfl, rfl, rfl⟩
    show fl_X12_keen_7 (fb_X12_keen_7 fu) _ _ = _
    unfold fl_X12_keen_7
    rw [if_pos (by decide)]
  | succ d ih =>
    intro fu k v hR hk h8 hf
    obtain ⟨fu, rfl⟩ : ∃ m, fu = m + 1 := ⟨fu - 1, by omega⟩
    show ∃ (r : Int32) (v2 : V12), fl_X12_keen_7 (fb_X12_keen_7 fu) v (nI k) = some (r, v2) ∧ SA v v2
    unfold fl_X12_keen_7
    have hR0 := hR
    obtain ⟨c, lg, W, BL, o, hSV, hS, -⟩ := hR0
    obtain ⟨f0, f1, -⟩ := hSV.cells hS
    obtain ⟨g0, g1, g2, g3, g4, g5, -⟩ := hSV
    obtain ⟨r, v2, a1, a2⟩ := alarms_ok hR hB (c := c) (lg := k) g1 g2 h8 (by omega)
    rw [if_neg (show ¬ (40 : Int32) < nI k from nI_nlt (a := 40) (by omega) (by decide)), chk_in (show vp_in (0 : Int32) 4725 by unfold vp_in; decide), show ((0 : Int32)).toNatClampNeg = 0 from rfl, f0, a1, bnd2_s]
    by_cases h : r = 0
    · rw [if_pos h]; exact ⟨_, v2, rfl, a2⟩
    · rw [if_neg h, bnd_e, nI_1]
      obtain ⟨r2, v3, i1, i2⟩ := ih fu (k + 1) v2 (hR.frame (fun j hj => a2.1 j (by omega))) (by omega) (by omega) (by omega)
      exact ⟨r2, v3, i1, a2.trans i2⟩
theorem R.hist {B : Nat} {w : V10} {F : Nat → Int32} (hR : R B w F) : ∃ H : Nat, H ≤ 400 ∧ w.2.2.2.2.2.1.2.2 = nI H ∧ ∀ k, k < H → ∃ b : Int32, f_X4_bitAt w.2.2.2.2.2.1 (nI k) = some b := by
  obtain ⟨-, -, -, -, -, -, -, -, -, -, -, hQ, -⟩ := hR
  obtain ⟨H, h, h1, h2, h3, h4, h5, h6⟩ := hQ
  exact ⟨H, h1, h3, fun k hk => ⟨_, q_at (by omega) h2 h3 h4 h6 hk⟩⟩
theorem q_replayed {B : Nat} {v0 : V11} {v : V12} (hR : R B v0.1 v.2.1) (hB : B + 400 < 2 ^ 30) (p : Int32) : ∃ (r r2 : Int32) (u : V11) (v2 : V12), u.1 = v0.1 ∧ f_X11_replayed v0 p = some (r, u) ∧ f_X12_replayed v p = some (r2, v2) ∧ SA v v2 := by
  have hR0 := hR
  obtain ⟨c, lg, W, BL, o, hSV, hS, -⟩ := hR0
  obtain ⟨f0, f1, f2, -⟩ := hSV.cells hS
  obtain ⟨g0, g1, g2, g3, g4, g5, g6, g7, g8, -⟩ := hSV
  obtain ⟨H, h1, h2, h3⟩ := hR.hist
  unfold f_X11_replayed f_X12_replayed
  rw [chk_in (show vp_in (0 : Int32) 9 by unfold vp_in; decide), chk_in (show vp_in (0 : Int32) 9 by unfold vp_in; decide), chk_in (show vp_in (1 : Int32) 4725 by unfold vp_in; decide)]
  by_cases a1 : p < 8
  · refine ⟨-1, -1, v0, (0, v.2), rfl, if_pos a1, ?_, fun _ _ => rfl, rfl, rfl⟩
    unfold f_X12_in
    rw [if_pos a1, bnd1_s, if_pos rfl]
  · have h0 : ¬ p < 0 := fun q => a1 (by
      rw [Int32.lt_iff_toInt_lt] at q ⊢
      rw [show (0 : Int32).toInt = 0 from rfl] at q
      rw [show (8 : Int32).toInt = 8 from rfl]
      omega)
    obtain ⟨n, hn, e⟩ := nI_of h0
    subst e
    have hn8 : 8 ≤ n := Nat.le_of_not_lt (fun q => a1 (nI_lt (b := 8) q (by decide)))
    have i1 : f_X12_in (nI n) 8 15 = some (if (decide (8 ≤ n) && decide (n ≤ 15)) = true then 1 else 0) := m_in2 (a := 8) (b := 15) (by decide) (by decide) hn
    rw [if_neg (show ¬ nI n < stL ((0 : Int32)).toNatClampNeg from a1), i1, bnd1_s]
    by_cases a2 : n ≤ 15
    · obtain ⟨r2, v2, b1, b2⟩ := alarms_ok (v := (0, v.2)) hR hB (c := n) (lg := lg) hn8 a2 g4 g5
      obtain ⟨T, tr, ht⟩ := x_lims v0.2.2.2.2.2.1 hn8 a2 g4 g5 g7 g8
      obtain ⟨r, u, u1, u2⟩ := x_replay (w := v0.1) h1 h2 h3 (nI W) H FU 0 0 (v0.1, v0.2.1, v0.2.2.1, v0.2.2.2.1, v0.2.2.2.2.1, (T, tr, nI (lmR n lg), nI (lmP n lg W), nI (lmC lg W)), (0, 0, 0, 0, 0, 0), v0.2.2.2.2.2.2.2) rfl (by omega) (by show H < 8589934592; omega)
      refine ⟨r, r2, u, v2, u2, ?_, ?_, b2⟩
      · unfold f_X1_clear
        rw [if_pos (show nI n ≤ stM ((0 : Int32)).toNatClampNeg from nI_le (b := 15) a2 (by decide)), show f_X7_valueOf v0.1.1 (2 : Int32) = f_X7_valueOf v0.1.1 (nI 2) from rfl, show f_X7_valueOf v0.1.1 (1 : Int32) = f_X7_valueOf v0.1.1 (nI 1) from rfl, val_nI _ (by decide), val_nI _ (by decide), bnd1_s, bnd1_s, g3, g6, ht, bnd1_s, bnd1_s]
        exact u1
      · rw [if_pos (in_dec ⟨hn8, a2⟩), if_neg (show ¬ (1 : Int32) = 0 by decide), show ((1 : Int32)).toNatClampNeg = 1 from rfl, f1, b1, bnd2_s]
    · exact ⟨-1, -1, v0, (0, v.2), rfl, if_neg (show ¬ nI n ≤ stM ((0 : Int32)).toNatClampNeg from nI_ge (a := 15) (by omega) hn), if_pos (by rw [if_neg (in_ndec (by omega))]), fun _ _ => rfl, rfl, rfl⟩
theorem x_mpk {B : Nat} {v0 : V11} {F : Nat → Int32} (hR : R B v0.1 F) : ∃ u : V11, f_X11_measurePeaks v0 = some u ∧ u.1 = v0.1 := by
  obtain ⟨H, h1, h2, h3⟩ := hR.hist
  obtain ⟨u, u1, u2⟩ := x_peaks (w := v0.1) h1 h2 h3 H FU 0 (v0.1, v0.2.1, v0.2.2.1, v0.2.2.2.1, v0.2.2.2.2.1, v0.2.2.2.2.2.1, (0, 0, 0, 0, 0, 0), (0, 0, 0, 0, 0, 0)) rfl (by omega) (by show H < 8589934592; omega)
  refine ⟨u, ?_, u2⟩
  unfold f_X11_measurePeaks f_X1_clear
  rw [bnd1_s, bnd1_s]
  exact u1
theorem q_fit {B : Nat} {v0 : V11} {v : V12} (hR : R B v0.1 v.2.1) (hB : B + 400 < 2 ^ 30) : ∃ (r r2 : Int32) (u : V11) (v2 : V12), u.1 = v0.1 ∧ f_X11_fit v0 = some (r, u) ∧ f_X12_fit v = some (r2, v2) ∧ SA v v2 := by
  have hR0 := hR
  obtain ⟨c, lg, W, BL, o, hSV, hS, -⟩ := hR0
  obtain ⟨g0, g1, g2, g3, g4, g5, g6, g7, g8, -⟩ := hSV
  obtain ⟨u1, p1, p2⟩ := x_mpk hR
  obtain ⟨r, u, q1, q2⟩ := x_fitl (w := v0.1) g6 g3 g4 g5 g7 g8 8 FU 8 (u1.1, v0.2.1, v0.2.2.1, v0.2.2.2.1, v0.2.2.2.2.1, v0.2.2.2.2.2.1, u1.2.2.2.2.2.2) p2 (by omega) (by omega) (by decide)
  obtain ⟨r2, v2, m1, m2⟩ := m_fitl (w := v0.1) hB 8 FU 8 (0, v.2) hR (by omega) (by omega) (by decide)
  refine ⟨r, r2, u, v2, q2, ?_, m1, m2⟩
  unfold f_X11_fit
  rw [p1, bnd1_s, chk_in (show vp_in (0 : Int32) 9 by unfold vp_in; decide), bnd_e]
  exact q1
theorem q_keen {B : Nat} {v0 : V11} {v : V12} (hR : R B v0.1 v.2.1) (hB : B + 400 < 2 ^ 30) : ∃ (r r2 : Int32) (u : V11) (v2 : V12), u.1 = v0.1 ∧ f_X11_keen v0 = some (r, u) ∧ f_X12_keen v = some (r2, v2) ∧ SA v v2 := by
  have hR0 := hR
  obtain ⟨c, lg, W, BL, o, hSV, hS, -⟩ := hR0
  obtain ⟨g0, g1, g2, g3, g4, g5, g6, g7, g8, -⟩ := hSV
  obtain ⟨u1, p1, p2⟩ := x_mpk hR
  obtain ⟨r, u, q1, q2⟩ := x_keenl (w := v0.1) g6 g0 g1 g2 g7 g8 40 FU 1 (u1.1, v0.2.1, v0.2.2.1, v0.2.2.2.1, v0.2.2.2.2.1, v0.2.2.2.2.2.1, u1.2.2.2.2.2.2) p2 (by omega) (by omega) (by decide)
  obtain ⟨r2, v2, m1, m2⟩ := m_keenl (w := v0.1) hB 40 FU 1 (0, v.2) hR (by omega) (by omega) (by decide)
  refine ⟨r, r2, u, v2, q2, ?_, m1, m2⟩
  unfold f_X11_keen
  rw [p1, bnd1_s, chk_in (show vp_in (1 : Int32) 9 by unfold vp_in; decide), bnd_e]
  exact q1
end AL
end mp_70_al
section mp_71_wr
section WRS
/-- the watch after a call that changes it -/
def WR (B : Nat) (v : V12) (w : V10) (v2 : V12) : Prop := R B w v2.2.1 ∧ RT w.2.2.2.2.2.2.2.1 v2.2.1 v2.2.2.1 ∧ (∀ j, 945 ≤ j → v2.2.1 j = v.2.1 j) ∧ (∀ j, 300 ≤ j → v2.2.2.1 j = v.2.2.1 j) ∧ v2.2.2.2.1 = v.2.2.2.1
theorem WR.same {B B2 : Nat} {v v2 : V12} {w : V10} (hR : R B w v.2.1) (hT : RT w.2.2.2.2.2.2.2.1 v.2.1 v.2.2.1) (hB : B ≤ B2) (h : v2.2 = v.2) : WR B2 v w v2 := by
  unfold WR
  rw [h]
  exact ⟨hR.mono hB, hT, fun _ _ => rfl, fun _ _ => rfl, rfl⟩
theorem w_tell {B B2 : Nat} {v0 : V11} {v : V12} (hR : R B v0.1 v.2.1) (hT : RT v0.1.2.2.2.2.2.2.2.1 v.2.1 v.2.2.1) (hB : B ≤ B2) (e : Int64) : ∃ (r : Int32) (u : V11) (v2 : V12), f_X11_tell v0 e = some (r, u) ∧ f_X12_tell v e = some (r, v2) ∧ WR B2 v u.1 v2 := by
  obtain ⟨r, t2, F2, tx2, a1, a2, a3, a4, a5⟩ := tell_rel e hT
  refine ⟨r, ((v0.1.1, v0.1.2.1, v0.1.2.2.1, v0.1.2.2.2.1, v0.1.2.2.2.2.1, v0.1.2.2.2.2.2.1, v0.1.2.2.2.2.2.2.1, t2, v0.1.2.2.2.2.2.2.2.2), v0.2), (0, F2, tx2, v.2.2.2), ?_, a2, ?_, a3, fun j hj => a4 j (by omega), a5, rfl⟩
  · unfold f_X11_tell
    rw [a1, bnd2_s]
  · have hR2 : R B2 v0.1 F2 := (hR.frame (fun j hj => a4 j (by omega))).mono hB
    exact hR2
theorem w_settings {B B2 : Nat} {v0 : V11} {v : V12} (hR : R B v0.1 v.2.1) (hT : RT v0.1.2.2.2.2.2.2.2.1 v.2.1 v.2.2.1) (hB : B ≤ B2) : ∃ (r : Int32) (u : V11) (v2 : V12), f_X11_settings v0 = some (r, u) ∧ f_X12_settings v = some (r, v2) ∧ WR B2 v u.1 v2 := by
  obtain ⟨r, w2, u2, v2, a1, a2, a3, a4, a5, a6, a7, a8⟩ := settings_rel v0 v (hR.mono hB) hT
  exact ⟨r, (w2, v0.2.1, v0.2.2.1, u2, v0.2.2.2.2), v2, a1, a2, a3, a4, a6, fun _ _ => by rw [a7], a8⟩
theorem RT.keep {w w2 : V10} {v v2 : V12} (hT : RT w.2.2.2.2.2.2.2.1 v.2.1 v.2.2.1) (e1 : w2.2.2.2.2.2.2.2.1 = w.2.2.2.2.2.2.2.1) (e2 : ∀ j, 942 ≤ j → v2.2.1 j = v.2.1 j) (e3 : v2.2.2.1 = v.2.2.1) : RT w2.2.2.2.2.2.2.2.1 v2.2.1 v2.2.2.1 := by
  rw [e1, e3]
  exact hT.copy (fun _ _ => rfl) rfl (fun j h1 h2 => e2 j h1) (fun _ _ => rfl)
theorem R.s28 {B : Nat} {w : V10} {F : Nat → Int32} (hR : R B w F) : F 28 = w.2.2.2.2.2.2.2.2.2.2.2.1 := by
  obtain ⟨c, lg, W, BL, o, hSV, hS, hLm, hO, hC, hP, hQ, hRr, w25, w26, w27, w28, w29, w30, wst⟩ := hR
  exact w28
theorem w_start {B B2 : Nat} {v0 : V11} {v : V12} (hR : R B v0.1 v.2.1) (hT : RT v0.1.2.2.2.2.2.2.2.1 v.2.1 v.2.2.1) (hB : B ≤ B2) : ∃ (r : Int32) (u : V11) (v2 : V12), f_X11_start v0 = some (r, u) ∧ f_X12_start v = some (r, v2) ∧ WR B2 v u.1 v2 := by
  obtain ⟨w2, F2, s1, s2, s3, s4, s5, s6, s7, s8, s9, s10, s11, s12⟩ := starts_rel (v := (0, v.2)) hR
  refine ⟨w2.2.2.2.2.2.2.2.2.2.2.2.1, (w2, v0.2), (0, F2, v.2.2), ?_, ?_, s3.mono hB, RT.keep (v := v) (v2 := (0, F2, v.2.2)) hT s6 s12 rfl, fun j hj => s12 j (by omega), fun _ _ => rfl, rfl⟩
  · unfold f_X11_start
    rw [s1, bnd1_s]
  · unfold f_X12_start
    rw [s2, bnd1_s, chk_in (show vp_in (28 : Int32) 4725 by unfold vp_in; decide), show ((28 : Int32)).toNatClampNeg = 28 from rfl]
    dsimp only
    rw [s3.s28]
theorem w_stop {B B2 : Nat} {v0 : V11} {v : V12} (hR : R B v0.1 v.2.1) (hT : RT v0.1.2.2.2.2.2.2.2.1 v.2.1 v.2.2.1) (hB : B ≤ B2) : ∃ (r : Int32) (u : V11) (v2 : V12), f_X11_stop v0 = some (r, u) ∧ f_X12_stop v = some (r, v2) ∧ WR B2 v u.1 v2 := by
  have h25 := hR.st25.1
  have h25i : vp_in (25 : Int32) 4725 := by unfold vp_in; decide
  unfold f_X11_stop f_X12_stop
  rw [chk_in h25i, show ((25 : Int32)).toNatClampNeg = 25 from rfl]
  by_cases h : v0.1.2.2.2.2.2.2.2.2.1 = 0
  · rw [if_pos h, if_pos (h25.trans h)]
    exact ⟨0, v0, (0, v.2), rfl, rfl, WR.same hR hT hB rfl⟩
  · obtain ⟨w2, F1, F2, o1, o2, o3, o4, o5, o6⟩ := off_rel (v := (0, v.2)) hR
    have o3' : f_X12_forgets ((0 : Int32), F1, v.2.2) = some (0, F2, v.2.2) := o3
    rw [if_neg h, if_neg (show ¬ v.2.1 25 = 0 by rw [h25]; exact h), o1, bnd1_s, o2, bnd1_s]
    dsimp only
    rw [o3', bnd1_s, chk_in h25i, bnd_e]
    exact ⟨1, (w2, v0.2), (0, upd F2 25 0, v.2.2), rfl, rfl, o4.mono hB, RT.keep (v := v) (v2 := (0, upd F2 25 0, v.2.2)) hT o5 o6 rfl, fun j hj => o6 j (by omega), fun _ _ => rfl, rfl⟩
/-- from 1 to m or not -/
theorem in1 (p : Int32) {m : Nat} (hm : m < 2 ^ 31) : (∃ k : Nat, 1 ≤ k ∧ k ≤ m ∧ p = nI k ∧ f_X12_in p 1 (nI m) = some 1) ∨ ((p < 1 ∨ (¬ p < 1 ∧ ¬ p ≤ nI m)) ∧ f_X12_in p 1 (nI m) = some 0) := by
  by_cases a1 : p < 1
  · refine Or.inr ⟨Or.inl a1, ?_⟩
    unfold f_X12_in
    rw [if_pos a1]
  · have h0 : ¬ p < 0 := fun q => a1 (by
      rw [Int32.lt_iff_toInt_lt] at q ⊢
      rw [show (0 : Int32).toInt = 0 from rfl] at q
      rw [show (1 : Int32).toInt = 1 from rfl]
      omega)
    obtain ⟨n, hn, e⟩ := nI_of h0
    subst e
    have hn1 : 1 ≤ n := Nat.le_of_not_lt (fun q => a1 (nI_lt (b := 1) q (by decide)))
    have i1 : f_X12_in (nI n) 1 (nI m) = some (if (decide (1 ≤ n) && decide (n ≤ m)) = true then 1 else 0) := m_in2 (a := 1) (b := m) (by decide) hm hn
    by_cases a2 : n ≤ m
    · rw [if_pos (in_dec ⟨hn1, a2⟩)] at i1
      exact Or.inl ⟨n, hn1, a2, rfl, i1⟩
    · rw [if_neg (in_ndec (by omega))] at i1
      exact Or.inr ⟨Or.inr ⟨a1, nI_ge (by omega) hn⟩, i1⟩
theorem w_draw {B : Nat} {v0 : V11} {v : V12} (hR : R B v0.1 v.2.1) (hT : RT v0.1.2.2.2.2.2.2.2.1 v.2.1 v.2.2.1) (hB : B + 400 < 2 ^ 30) (p : Int32) : ∃ (r : Int32) (u : V11) (v2 : V12), f_X11_draw v0 p = some (r, u) ∧ f_X12_draw v p = some (r, v2) ∧ WR (B + 400) v u.1 v2 := by
  unfold f_X11_draw f_X12_draw
  rw [show f_X12_in p 1 400 = f_X12_in p 1 (nI 400) from rfl]
  rcases in1 p (m := 400) (by decide) with ⟨n, n1, n2, e, i1⟩ | ⟨hn, i1⟩
  · obtain ⟨r, w2, v2, d1, d2, d3, d4, d5, d6, d7, d8⟩ := draws_rel (v := (0, v.2)) hR n2 (by omega)
    rw [i1, bnd1_s, if_neg (show ¬ (1 : Int32) = 0 by decide), e, if_neg (show ¬ nI n < (1 : Int32) from nI_nlt (b := 1) n1 (by omega)), if_pos (show nI n ≤ (400 : Int32) from nI_le (b := 400) n2 (by decide)), d1, bnd2_s, d2, bnd2_s]
    exact ⟨r, (w2, v0.2), v2, rfl, rfl, d3.mono (by omega), RT.keep (v := v) (v2 := v2) hT d4 d8 d5, fun j hj => d8 j (by omega), fun _ _ => by rw [d5], d6⟩
  · rw [i1, bnd1_s, if_pos rfl]
    rcases hn with hn | ⟨hn, hn2⟩
    · rw [if_pos hn]
      exact ⟨-1, v0, (0, v.2), rfl, rfl, WR.same hR hT (by omega) rfl⟩
    · rw [if_neg hn, if_neg (show ¬ p ≤ (400 : Int32) from hn2)]
      exact ⟨-1, v0, (0, v.2), rfl, rfl, WR.same hR hT (by omega) rfl⟩
theorem w_hand {B : Nat} {v0 : V11} {v : V12} (hR : R B v0.1 v.2.1) (hT : RT v0.1.2.2.2.2.2.2.2.1 v.2.1 v.2.2.1) (hB : B + 400 < 2 ^ 30) (bits p : Int32) : ∃ (r : Int32) (u : V11) (v2 : V12), f_X11_hand v0 bits p = some (r, u) ∧ f_X12_hand v bits p = some (r, v2) ∧ WR (B + 400) v u.1 v2 := by
  unfold f_X11_hand f_X12_hand
  rw [show f_X12_in p 1 32 = f_X12_in p 1 (nI 32) from rfl]
  rcases in1 p (m := 32) (by decide) with ⟨n, n1, n2, e, i1⟩ | ⟨hn, i1⟩
  · obtain ⟨v1, q1, q2, q3, q4, q5, q6⟩ := lays2 (v := (0, v.2)) hR
    obtain ⟨r, w2, F2, d1, d2, d3, d4, d5⟩ := hand_loop bits n FU FU B 0 v0 v1 (by rw [q4]; exact hR) q2 (by omega) n2 (by show n < 8589934592; omega) (by show n < 8589934592; omega)
    have hc : ∀ j, 942 ≤ j → F2 j = v.2.1 j := fun j hj => (d5 j hj).trans (by rw [q4])
    rw [i1, bnd1_s, if_neg (show ¬ (1 : Int32) = 0 by decide), e, if_neg (show ¬ nI n < (1 : Int32) from nI_nlt (b := 1) n1 (by omega)), if_pos (show nI n ≤ (32 : Int32) from nI_le (b := 32) n2 (by decide)), bnd_e, d1, q1, bnd1_s, bnd_e, d2]
    exact ⟨r, (w2, v0.2), (v1.1, F2, v1.2.2), rfl, rfl, d3.mono (by omega), RT.keep (v := v) (v2 := (v1.1, F2, v1.2.2)) hT d4 hc q5, fun j hj => hc j (by omega), fun _ _ => by show v1.2.2.1 _ = _; rw [q5], q6⟩
  · rw [i1, bnd1_s, if_pos rfl]
    rcases hn with hn | ⟨hn, hn2⟩
    · rw [if_pos hn]
      exact ⟨-1, v0, (0, v.2), rfl, rfl, WR.same hR hT (by omega) rfl⟩
    · rw [if_neg hn, if_neg (show ¬ p ≤ (32 : Int32) from hn2)]
      exact ⟨-1, v0, (0, v.2), rfl, rfl, WR.same hR hT (by omega) rfl⟩
theorem w_take {B B2 : Nat} {v0 : V11} {v : V12} (hR : R B v0.1 v.2.1) (hT : RT v0.1.2.2.2.2.2.2.2.1 v.2.1 v.2.2.1) (hB : B ≤ B2) (p : Int32) : ∃ (r : Int32) (u : V11) (v2 : V12), f_X11_take v0 p = some (r, u) ∧ f_X12_take v p = some (r, v2) ∧ WR B2 v u.1 v2 := by
  unfold f_X11_take f_X12_take
  rw [show f_X12_in p 1 30 = f_X12_in p 1 (nI 30) from rfl]
  rcases in1 p (m := 30) (by decide) with ⟨n, n1, n2, e, i1⟩ | ⟨hn, i1⟩
  · obtain ⟨c, lg, W, BL, o, hSV, hS, hLm, hO, hC, hP, hQ, hRr, w25, w26, w27, w28, w29, w30, wst⟩ := hR
    obtain ⟨r, p2, F2, d1, d2, d3, d4⟩ := take_rel (v := (0, v.2)) hP n1 n2
    have d2' : (if nI n ≤ v.2.1 43 then fb_X12_take_32 FU ((0 : Int32), v.2) (nI n) 0 0 else some (-1, ((0 : Int32), v.2))) = some (r, ((0 : Int32), F2, v.2.2)) := d2
    rw [i1, bnd1_s, if_neg (show ¬ (1 : Int32) = 0 by decide), e, if_neg (show ¬ nI n < (1 : Int32) from nI_nlt (b := 1) n1 (by omega)), if_pos (show nI n ≤ (30 : Int32) from nI_le (b := 30) n2 (by decide)), d1, bnd2_s, chk_in (show vp_in (43 : Int32) 4725 by unfold vp_in; decide), show ((43 : Int32)).toNatClampNeg = 43 from rfl, d2']
    have e4 : ∀ j, j < 37 ∨ 300 ≤ j → F2 j = v.2.1 j := d4
    refine ⟨r, ((v0.1.1, v0.1.2.1, v0.1.2.2.1, v0.1.2.2.2.1, p2, v0.1.2.2.2.2.2), v0.2), (0, F2, v.2.2), rfl, rfl, ?_, RT.keep (v := v) (v2 := (0, F2, v.2.2)) (w := v0.1) hT rfl (fun j hj => e4 j (by omega)) rfl, fun j hj => e4 j (by omega), fun _ _ => rfl, rfl⟩
    have hR2 : R B (v0.1.1, v0.1.2.1, v0.1.2.2.1, v0.1.2.2.2.1, p2, v0.1.2.2.2.2.2) F2 := by
      refine ⟨c, lg, W, BL, o, hSV, hS.frame (fun j hj => e4 j (by omega)), hLm, hO.frame (fun j a1 a2 => e4 j (by omega)), hC.frame (fun j a1 a2 => e4 j (by omega)), d3, hQ.frame (fun j hj => e4 j (by omega)), hRr.frame (fun j a1 a2 => e4 j (by omega)), ?_, ?_, ?_, ?_, ?_, fun h => ⟨?_, ?_⟩, wst⟩
      · rw [e4 25 (by omega)]; exact w25
      · rw [e4 26 (by omega)]; exact w26
      · rw [e4 27 (by omega)]; exact w27
      · rw [e4 28 (by omega)]; exact w28
      · rw [e4 29 (by omega)]; exact w29
      · rw [e4 30 (by omega)]; exact (w30 h).1
      · rw [e4 701 (by omega)]; exact (w30 h).2
    exact hR2.mono hB
  · rw [i1, bnd1_s, if_pos rfl]
    rcases hn with hn | ⟨hn, hn2⟩
    · rw [if_pos hn]
      exact ⟨-1, v0, (0, v.2), rfl, rfl, WR.same hR hT hB rfl⟩
    · rw [if_neg hn, if_neg (show ¬ p ≤ (30 : Int32) from hn2)]
      exact ⟨-1, v0, (0, v.2), rfl, rfl, WR.same hR hT hB rfl⟩
/-- an image that is kept -/
def KI (B k : Nat) (o : Option V10) (v : V12) : Prop := (o = none ∧ v.2.2.2.1 k = 0) ∨ ∃ w : V10, o = some w ∧ v.2.2.2.1 k ≠ 0 ∧ R B w (fun j => v.2.1 (945 * (k + 1) + j)) ∧ RT w.2.2.2.2.2.2.2.1 (fun j => v.2.1 (945 * (k + 1) + j)) (fun j => v.2.2.1 (300 * (k + 1) + j))
theorem KI.frame {B B2 k : Nat} {o : Option V10} {v v2 : V12} (h : KI B k o v) (hB : B ≤ B2) (e1 : ∀ j, j < 945 → v2.2.1 (945 * (k + 1) + j) = v.2.1 (945 * (k + 1) + j)) (e2 : ∀ j, j < 300 → v2.2.2.1 (300 * (k + 1) + j) = v.2.2.1 (300 * (k + 1) + j)) (e3 : v2.2.2.2.1 k = v.2.2.2.1 k) : KI B2 k o v2 := by
  rcases h with ⟨h1, h2⟩ | ⟨w, h1, h2, h3, h4⟩
  · exact Or.inl ⟨h1, e3.trans h2⟩
  · refine Or.inr ⟨w, h1, by rw [e3]; exact h2, (h3.mono hB).frame (fun j hj => e1 j (by omega)), h4.copy (fun _ _ => rfl) rfl (fun j _ hj => e1 j hj) (fun j hj => by
      show v2.2.2.1 (300 * (k + 1) + j) &&& 255 = v.2.2.1 (300 * (k + 1) + j) &&& 255
      rw [e2 j hj])⟩
/-- what holds between two calls -/
def INV (B : Nat) (v0 : V11) (v : V12) (K : KT) : Prop := R B v0.1 v.2.1 ∧ RT v0.1.2.2.2.2.2.2.2.1 v.2.1 v.2.2.1 ∧ KI B 0 K.1 v ∧ KI B 1 K.2.1 v ∧ KI B 2 K.2.2 v
theorem INV.q {B B2 : Nat} {v0 u : V11} {v v2 : V12} {K : KT} (h : INV B v0 v K) (hB : B ≤ B2) (h1 : u.1 = v0.1) (h2 : SA v v2) : INV B2 u v2 K := by
  obtain ⟨a1, a2, a3, a4, a5⟩ := h
  obtain ⟨s1, s2, s3⟩ := h2
  refine ⟨by rw [h1]; exact (a1.mono hB).frame (fun j hj => s1 j (by omega)), ?_, a3.frame hB (fun j hj => s1 _ (by omega)) (fun j hj => by rw [s2]) (by rw [s3]), a4.frame hB (fun j hj => s1 _ (by omega)) (fun j hj => by rw [s2]) (by rw [s3]), a5.frame hB (fun j hj => s1 _ (by omega)) (fun j hj => by rw [s2]) (by rw [s3])⟩
  rw [h1, s2]
  exact a2.copy (fun _ _ => rfl) rfl (fun j _ hj => s1 j (by omega)) (fun _ _ => rfl)
theorem INV.q0 {B B2 : Nat} {v0 u : V11} {v : V12} {K : KT} (h : INV B v0 v K) (hB : B ≤ B2) (h1 : u.1 = v0.1) (x : Int32) : INV B2 u (x, v.2) K := h.q hB h1 ⟨fun _ _ => rfl, rfl, rfl⟩
theorem INV.w {B B2 : Nat} {v0 u : V11} {v v2 : V12} {K : KT} (h : INV B v0 v K) (hB : B ≤ B2) (hW : WR B2 v u.1 v2) : INV B2 u v2 K := by
  obtain ⟨a1, a2, a3, a4, a5⟩ := h
  obtain ⟨s1, s2, s3, s4, s5⟩ := hW
  exact ⟨s1, s2, a3.frame hB (fun j hj => s3 _ (by omega)) (fun j hj => s4 _ (by omega)) (by rw [s5]), a4.frame hB (fun j hj => s3 _ (by omega)) (fun j hj => s4 _ (by omega)) (by rw [s5]), a5.frame hB (fun j hj => s3 _ (by omega)) (fun j hj => s4 _ (by omega)) (by rw [s5])⟩
end WRS
end mp_71_wr
section mp_72_im
section IM
theorem m_image {v : V12} {k : Nat} (hk : k < 3) : ∃ F2 t2 : Nat → Int32, f_X12_image v (nI k) = some (1, (0, F2, t2, upd v.2.2.2.1 k 1, v.2.2.2.2)) ∧ (∀ j, j < 945 → F2 (945 * (k + 1) + j) = v.2.1 j) ∧ (∀ j, j < 945 * (k + 1) ∨ 945 * (k + 1) + 945 ≤ j → F2 j = v.2.1 j) ∧ (∀ j, j < 300 → t2 (300 * (k + 1) + j) &&& 255 = v.2.2.1 j &&& 255) ∧ ∀ j, j < 300 * (k + 1) ∨ 300 * (k + 1) + 300 ≤ j → t2 j = v.2.2.1 j := by
  obtain ⟨F2, t2, a1, a2, a3, a4, a5⟩ := m_text (a := 0) (b := k + 1) (by decide) (by omega) (by omega) (0, v.2)
  refine ⟨F2, t2, ?_, fun j hj => ?_, a3, fun j hj => ?_, a5⟩
  · unfold f_X12_image
    rw [show f_X12_in (nI k) 0 2 = some (if (decide (0 ≤ k) && decide (k ≤ 2)) = true then 1 else 0) from m_in2 (a := 0) (b := 2) (by decide) (by decide) (by omega), if_pos (in_dec (by omega)), bnd1_s, if_neg (by decide), nI_1, show f_X12_copiesText ((0 : Int32), v.2) (0 : Int32) (nI (k + 1)) = _ from a1, bnd1_s, chk_nI hk (by decide), bnd_e, nI_clamp (by omega)]
    rfl
  · have := a2 j hj
    rw [Nat.mul_zero, Nat.zero_add] at this
    exact this
  · have := a4 j hj
    rw [Nat.mul_zero, Nat.zero_add] at this
    exact this
theorem x_copy {B : Nat} {w : V10} {F tx : Nat → Int32} (w0 : V10) (hR : R B w F) (hT : RT w.2.2.2.2.2.2.2.1 F tx) : ∃ u : V10, f_X10_copyFrom w0 w = some u ∧ R B u F ∧ RT u.2.2.2.2.2.2.2.1 F tx := by
  obtain ⟨u, u1, u2, u3, u4⟩ := copy_rel w0 hR
  exact ⟨u, u1, u2, hT.copy u3 u4 (fun _ _ _ => rfl) (fun _ _ => rfl)⟩
theorem INV.img {B B2 k : Nat} {v0 : V11} {v : V12} {K : KT} (h : INV B v0 v K) (hB : B ≤ B2) (hk : k < 3) {u : V10} (hR : R B u v.2.1) (hT : RT u.2.2.2.2.2.2.2.1 v.2.1 v.2.2.1) {F2 t2 : Nat → Int32} (a2 : ∀ j, j < 945 → F2 (945 * (k + 1) + j) = v.2.1 j) (a3 : ∀ j, j < 945 * (k + 1) ∨ 945 * (k + 1) + 945 ≤ j → F2 j = v.2.1 j) (a4 : ∀ j, j < 300 → t2 (300 * (k + 1) + j) &&& 255 = v.2.2.1 j &&& 255) (a5 : ∀ j, j < 300 * (k + 1) ∨ 300 * (k + 1) + 300 ≤ j → t2 j = v.2.2.1 j) : KI B2 k (some u) (0, F2, t2, upd v.2.2.2.1 k 1, v.2.2.2.2) ∧ (∀ (m : Nat) (o : Option V10), m < 3 → m ≠ k → KI B m o v → KI B2 m o (0, F2, t2, upd v.2.2.2.1 k 1, v.2.2.2.2)) ∧ R B2 v0.1 F2 ∧ RT v0.1.2.2.2.2.2.2.2.1 F2 t2 := by
  obtain ⟨b1, b2, -⟩ := h
  refine ⟨Or.inr ⟨u, rfl, ?_, (hR.mono hB).frame (fun j hj => a2 j (by omega)), hT.copy (fun _ _ => rfl) rfl (fun j _ hj => a2 j hj) a4⟩, fun m o hm hne hK => ?_, (b1.mono hB).frame (fun j hj => a3 j (by omega)), b2.copy (fun _ _ => rfl) rfl (fun j _ hj => a3 j (by omega)) (fun j hj => by rw [a5 j (by omega)])⟩
  · show upd v.2.2.2.1 k 1 k ≠ 0
    rw [upd_s]; decide
  · refine hK.frame hB (fun j hj => a3 _ ?_) (fun j hj => a5 _ ?_) (upd_n hne)
    · rcases Nat.lt_or_gt_of_ne hne with q | q
      · left
        have : 945 * (m + 1) ≤ 945 * k := Nat.mul_le_mul_left _ (by omega)
        omega
      · right
        have : 945 * (k + 1) ≤ 945 * m := Nat.mul_le_mul_left _ (by omega)
        omega
    · rcases Nat.lt_or_gt_of_ne hne with q | q
      · left
        have : 300 * (m + 1) ≤ 300 * k := Nat.mul_le_mul_left _ (by omega)
        omega
      · right
        have : 300 * (k + 1) ≤ 300 * m := Nat.mul_le_mul_left _ (by omega)
        omega
theorem out3 {p : Int32} (h0 : p ≠ 0) (h1 : p ≠ 1) (h2 : p ≠ 2) : f_X12_in p 0 2 = some 0 ∧ (p < 0 ∨ ¬ p < 3) := by
  rw [show f_X12_in p 0 2 = f_X12_in p 0 (nI 3 - 1) from rfl]
  rcases in0 p (n := 3) (by decide) with ⟨k, k1, k2, k3⟩ | ⟨k1, k2⟩
  · have : k = 0 ∨ k = 1 ∨ k = 2 := by omega
    rcases this with e | e | e
    · rw [e] at k2; exact absurd k2 h0
    · rw [e] at k2; exact absurd k2 h1
    · rw [e] at k2; exact absurd k2 h2
  · refine ⟨k2, ?_⟩
    rcases k1 with k1 | ⟨k, k3, k4, k5⟩
    · exact Or.inl k1
    · rw [k5]; exact Or.inr (nI_nlt (b := 3) k3 k4)
theorem m_image0 {v : V12} {p : Int32} (h0 : p ≠ 0) (h1 : p ≠ 1) (h2 : p ≠ 2) : f_X12_image v p = some (0, (0, v.2)) := by
  unfold f_X12_image
  rw [(out3 h0 h1 h2).1, bnd1_s, if_pos rfl]
theorem x_image0 {v0 : V11} {p : Int32} (h0 : p ≠ 0) (h1 : p ≠ 1) (h2 : p ≠ 2) : f_X11_image v0 p = some 0 := by
  unfold f_X11_image
  rcases (out3 h0 h1 h2).2 with q | q
  · rw [if_pos q]
  · by_cases q0 : p < 0
    · rw [if_pos q0]
    · rw [if_neg q0, if_neg q]
theorem m_again0 {v : V12} {p : Int32} (h0 : p ≠ 0) (h1 : p ≠ 1) (h2 : p ≠ 2) : f_X12_again v p = some (0, (0, v.2)) := by
  unfold f_X12_again
  rw [(out3 h0 h1 h2).1, bnd1_s, if_pos rfl]
theorem m_againN {v : V12} {k : Nat} (hk : k < 3) (h : v.2.2.2.1 k = 0) : f_X12_again v (nI k) = some (0, (0, v.2)) := by
  unfold f_X12_again
  rw [show f_X12_in (nI k) 0 2 = some (if (decide (0 ≤ k) && decide (k ≤ 2)) = true then 1 else 0) from m_in2 (a := 0) (b := 2) (by decide) (by decide) (by omega), if_pos (in_dec (by omega)), bnd1_s, if_neg (by decide), chk_nI hk (by decide), nI_clamp (by omega), if_pos h]
theorem w_again {B B2 k : Nat} {v0 : V11} {v : V12} {w : V10} (hk : k < 3) (hB : B ≤ B2) (hs : v.2.2.2.1 k ≠ 0) (hR : R B w (fun j => v.2.1 (945 * (k + 1) + j))) (hT : RT w.2.2.2.2.2.2.2.1 (fun j => v.2.1 (945 * (k + 1) + j)) (fun j => v.2.2.1 (300 * (k + 1) + j))) : ∃ (u : V10) (v2 : V12), f_X10_copyFrom v0.1 w = some u ∧ f_X12_again v (nI k) = some (1, v2) ∧ WR B2 v u v2 := by
  obtain ⟨u, u1, u2, u3⟩ := x_copy v0.1 hR hT
  obtain ⟨F2, t2, a1, a2, a3, a4, a5⟩ := m_text (a := k + 1) (b := 0) (by omega) (by decide) (by omega) (0, v.2)
  have b2 : ∀ j, j < 945 → F2 j = v.2.1 (945 * (k + 1) + j) := fun j hj => by
    have := a2 j hj
    rw [Nat.mul_zero, Nat.zero_add] at this
    exact this
  have b4 : ∀ j, j < 300 → t2 j &&& 255 = v.2.2.1 (300 * (k + 1) + j) &&& 255 := fun j hj => by
    have := a4 j hj
    rw [Nat.mul_zero, Nat.zero_add] at this
    exact this
  refine ⟨u, (0, F2, t2, v.2.2.2), u1, ?_, (u2.mono hB).frame (fun j hj => b2 j (by omega)), u3.copy (fun _ _ => rfl) rfl (fun j _ hj => b2 j hj) b4, fun j hj => a3 j (by omega), fun j hj => a5 j (by omega), rfl⟩
  unfold f_X12_again
  rw [show f_X12_in (nI k) 0 2 = some (if (decide (0 ≤ k) && decide (k ≤ 2)) = true then 1 else 0) from m_in2 (a := 0) (b := 2) (by decide) (by decide) (by omega), if_pos (in_dec (by omega)), bnd1_s, if_neg (by decide), chk_nI hk (by decide), nI_clamp (by omega), if_neg hs, nI_1, show f_X12_copiesText ((0 : Int32), v.2) (nI (k + 1)) (0 : Int32) = _ from a1, bnd1_s]
end IM
end mp_72_im
section mp_73_re
section RE
def hr_ (c : V1) (b W : Int32) : V1 := (f_X1_hear c b W).getD c
theorem hr_s (c : V1) (b W : Int32) : f_X1_hear c b W = some (hr_ c b W) := by
  obtain ⟨c2, h⟩ := x_hearO c b W
  unfold hr_
  rw [h]
  rfl
/-- which tests fail -/
def fl_ (l : Int32 × Int32 × Int32) (c : V1) : Int32 := if c.2.2.2.2.2 < l.2.2 then (if c.2.2.2.2.1 < l.2.1 then (if c.1 < l.1 then 0 else 1) else (if c.1 < l.1 then 2 else 3)) else (if c.2.2.2.2.1 < l.2.1 then (if c.1 < l.1 then 4 else 5) else (if c.1 < l.1 then 6 else 7))
theorem fl_s (L : V2) (c : V1) : f_X2_failures L c = some (fl_ L.2.2 c) := by
  unfold f_X2_failures fc_X2_failures_16 fc_X2_failures_32 fl_
  by_cases h1 : c.1 < L.2.2.1
  · rw [if_pos h1, if_pos h1, if_pos h1, if_pos h1, if_pos h1]
    by_cases h2 : c.2.2.2.2.1 < L.2.2.2.1
    · rw [if_pos h2, if_pos h2, if_pos h2]
      by_cases h3 : c.2.2.2.2.2 < L.2.2.2.2
      · rw [if_pos h3, if_pos h3]
      · rw [if_neg h3, if_neg h3]; rfl
    · rw [if_neg h2, if_neg h2, if_neg h2, bnd_e]
      by_cases h3 : c.2.2.2.2.2 < L.2.2.2.2
      · rw [if_pos h3, if_pos h3]; rfl
      · rw [if_neg h3, if_neg h3]; rfl
  · rw [if_neg h1, if_neg h1, if_neg h1, if_neg h1, if_neg h1]
    by_cases h2 : c.2.2.2.2.1 < L.2.2.2.1
    · rw [if_pos h2, if_pos h2, if_pos h2]
      by_cases h3 : c.2.2.2.2.2 < L.2.2.2.2
      · rw [if_pos h3, if_pos h3]
      · rw [if_neg h3, if_neg h3]; rfl
    · rw [if_neg h2, if_neg h2, if_neg h2, bnd_e]
      by_cases h3 : c.2.2.2.2.2 < L.2.2.2.2
      · rw [if_pos h3, if_pos h3]; rfl
      · rw [if_neg h3, if_neg h3]; rfl
theorem fl_0 (l : Int32 × Int32 × Int32) (c : V1) : fl_ l c = 0 ↔ (c.1 < l.1 ∧ c.2.2.2.2.1 < l.2.1 ∧ c.2.2.2.2.2 < l.2.2) := by
  unfold fl_
  by_cases h1 : c.1 < l.1 <;> by_cases h2 : c.2.2.2.2.1 < l.2.1 <;> by_cases h3 : c.2.2.2.2.2 < l.2.2 <;> simp [h1, h2, h3]
/-- how many alarms, when heard anew -/
def rp_ (l : Int32 × Int32 × Int32) (W : Int32) (g : Nat → Int32) : Nat → Nat → V1 → Int32 → Int32
  | 0, _, _, x => x
  | d + 1, k, c, x => if fl_ l (hr_ c (g k) W) = 0 then rp_ l W g d (k + 1) (hr_ c (g k) W) x else rp_ l W g d (k + 1) (0, 0, 0, 0, 0, 0) (x + 1)
theorem x_replayE {w : V10} {H : Nat} {g : Nat → Int32} (hH : H ≤ 400) (hlen : w.2.2.2.2.2.1.2.2 = nI H) (hat : ∀ k, k < H → f_X4_bitAt w.2.2.2.2.2.1 (nI k) = some (g k)) (x2 : Int32) (l : Int32 × Int32 × Int32) : ∀ (d fu k : Nat) (x3 : Int32) (v0 : V11), v0.1 = w → v0.2.2.2.2.2.1.2.2 = l → k + d = H → d < fu → ∃ u : V11, fb_X11_replayed_64 fu v0 x2 x3 (nI k) = some (rp_ l x2 g d k v0.2.2.2.2.2.2.1 x3, u) ∧ u.1 = w := by
  intro d
  induction d with
  | zero =>
    intro fu k x3 v0 hw hl hk hf
    obtain ⟨fu, rfl⟩ : ∃ m, fu = m + 1 := ⟨fu - 1, by omega⟩
    refine ⟨v0, ?_, hw⟩
    show fl_X11_replayed_64 (fb_X11_replayed_64 fu) _ _ _ _ = _
    unfold fl_X11_replayed_64
    rw [hw, hlen, if_pos (nI_le (by omega) (by omega))]
    rfl
  | succ d ih =>
    intro fu k x3 v0 hw hl hk hf
    obtain ⟨fu, rfl⟩ : ∃ m, fu = m + 1 := ⟨fu - 1, by omega⟩
    show ∃ u : V11, fl_X11_replayed_64 (fb_X11_replayed_64 fu) v0 x2 x3 (nI k) = some (if fl_ l (hr_ v0.2.2.2.2.2.2.1 (g k) x2) = 0 then rp_ l x2 g d (k + 1) (hr_ v0.2.2.2.2.2.2.1 (g k) x2) x3 else rp_ l x2 g d (k + 1) (0, 0, 0, 0, 0, 0) (x3 + 1), u) ∧ u.1 = w
    unfold fl_X11_replayed_64 f_X1_clear
    rw [hw, hlen, if_neg (nI_ge (by omega) (by omega)), hat k (by omega), bnd1_s, hr_s, bnd1_s, fl_s, bnd1_s, hl]
    by_cases h : fl_ l (hr_ v0.2.2.2.2.2.2.1 (g k) x2) = 0
    · rw [if_pos h, if_pos h, bnd_e, nI_1]
      exact ih fu (k + 1) x3 (w, v0.2.1, v0.2.2.1, v0.2.2.2.1, v0.2.2.2.2.1, v0.2.2.2.2.2.1, hr_ v0.2.2.2.2.2.2.1 (g k) x2, v0.2.2.2.2.2.2.2) rfl hl (by omega) (by omega)
    · rw [if_neg h, if_neg h, bnd_e, bnd1_s, bnd_e, nI_1]
      exact ih fu (k + 1) (x3 + 1) (w, v0.2.1, v0.2.2.1, v0.2.2.2.1, v0.2.2.2.2.1, v0.2.2.2.2.2.1, (0, 0, 0, 0, 0, 0), v0.2.2.2.2.2.2.2) rfl hl (by omega) (by omega)
/-- what a hearing does to counts and alarms -/
theorem h58_cls {w w2 : V10} {b r : Int32} (h : fc_X10_hear_58 w b = some (r, w2)) (h0 : w.2.2.2.2.2.2.2.2.1 ≠ 0) (h3 : w.2.2.2.2.2.2.2.2.1 ≠ 3) : w2.2.2.2.1 = hr_ w.2.2.2.1 b (w.1.1 2) ∧ ((fl_ w.2.1.2.2 (hr_ w.2.2.2.1 b (w.1.1 2)) = 0 ∧ w2.2.2.2.2.2.2.2.2.2.2.1 = w.2.2.2.2.2.2.2.2.2.2.1 ∧ w2.2.2.2.2.2.2.2.2.1 ≠ 0 ∧ w2.2.2.2.2.2.2.2.2.1 ≠ 3) ∨ (fl_ w.2.1.2.2 (hr_ w.2.2.2.1 b (w.1.1 2)) ≠ 0 ∧ w2.2.2.2.2.2.2.2.2.2.2.1 = w.2.2.2.2.2.2.2.2.2.2.1 + 1 ∧ w2.2.2.2.2.2.2.2.2.1 = 3)) := by
  unfold fc_X10_hear_58 at h
  obtain ⟨q2, -, h⟩ := bnd1_el h
  obtain ⟨r2, -, h⟩ := bnd1_el h
  obtain ⟨x, hx, h⟩ := bnd1_el h
  rw [show f_X7_valueOf w.1 (2 : Int32) = f_X7_valueOf w.1 (nI 2) from rfl, val_nI _ (by decide)] at hx
  have ex := Option.some.inj hx
  obtain ⟨c2, hc, h⟩ := bnd1_el h
  rw [← ex, hr_s] at hc
  have ec := Option.some.inj hc
  obtain ⟨rr, hf, h⟩ := bnd1_el h
  rw [← ec, fl_s] at hf
  have ef := Option.some.inj hf
  by_cases hr : fl_ w.2.1.2.2 (hr_ w.2.2.2.1 b (w.1.1 2)) = 0
  · rw [← ef, if_pos hr] at h
    by_cases h2 : w.2.2.2.2.2.2.2.2.1 = 2
    · rw [if_pos h2] at h
      obtain ⟨p2, -, h⟩ := bnd1_el h
      have e := (Prod.mk.inj (Option.some.inj h)).2
      rw [← e, ← ec]
      exact ⟨rfl, Or.inl ⟨hr, rfl, h0, h3⟩⟩
    · rw [if_neg h2] at h
      obtain ⟨y, -, h⟩ := bnd1_el h
      by_cases h4 : w.2.2.2.2.2.2.2.2.2.2.2.2.2 < y
      · rw [if_pos h4] at h
        have e := (Prod.mk.inj (Option.some.inj h)).2
        rw [← e, ← ec]
        exact ⟨rfl, Or.inl ⟨hr, rfl, h0, h3⟩⟩
      · rw [if_neg h4] at h
        have e := (Prod.mk.inj (Option.some.inj h)).2
        rw [← e, ← ec]
        exact ⟨rfl, Or.inl ⟨hr, rfl, show (2 : Int32) ≠ 0 by decide, show (2 : Int32) ≠ 3 by decide⟩⟩
  · rw [← ef, if_neg hr] at h
    obtain ⟨w3, h5, h⟩ := bnd1_el h
    have e := (Prod.mk.inj (Option.some.inj h)).2
    unfold f_X10_raiseAlarm at h5
    rw [bnd_e] at h5
    obtain ⟨p2, -, h5⟩ := bnd1_el h5
    have e5 := Option.some.inj h5
    rw [← e, ← e5, ← ec]
    exact ⟨rfl, Or.inr ⟨hr, rfl, rfl⟩⟩
theorem hear_cls {w w2 : V10} {b r : Int32} (h : f_X10_hear w b = some (r, w2)) (h0 : w.2.2.2.2.2.2.2.2.1 ≠ 0) (h3 : w.2.2.2.2.2.2.2.2.1 ≠ 3) : w2.2.2.2.1 = hr_ w.2.2.2.1 b (w.1.1 2) ∧ ((fl_ w.2.1.2.2 (hr_ w.2.2.2.1 b (w.1.1 2)) = 0 ∧ w2.2.2.2.2.2.2.2.2.2.2.1 = w.2.2.2.2.2.2.2.2.2.2.1 ∧ w2.2.2.2.2.2.2.2.2.1 ≠ 0 ∧ w2.2.2.2.2.2.2.2.2.1 ≠ 3) ∨ (fl_ w.2.1.2.2 (hr_ w.2.2.2.1 b (w.1.1 2)) ≠ 0 ∧ w2.2.2.2.2.2.2.2.2.2.2.1 = w.2.2.2.2.2.2.2.2.2.2.1 + 1 ∧ w2.2.2.2.2.2.2.2.2.1 = 3)) := by
  unfold f_X10_hear at h
  rw [if_neg h0, if_neg h3, bnd_e, bnd_e] at h
  by_cases hq : w.2.2.2.2.2.1.2.2 < 400
  · rw [if_pos hq] at h
    have e := h58_cls h h0 h3
    dsimp only at e
    exact e
  · rw [if_neg hq] at h
    obtain ⟨a, q2, -, h⟩ := bnd2_el h
    have e := h58_cls h h0 h3
    dsimp only at e
    exact e
theorem alarms_loopE {v1 : V12} {H : Nat} {g : Nat → Int32} (hH : H ≤ 400) (hbit : ∀ k, k < H → isb (v1.2.1 (4081 + k)) ∧ v1.2.1 (4081 + k) = g k) (W : Int32) (l : Int32 × Int32 × Int32) : ∀ (d fu k B : Nat) (w : V10) (v : V12), k + d = H → d < fu → R B w v.2.1 → LimM v w → w.1.1 2 = W → w.2.1.2.2 = l → w.2.2.2.2.2.2.2.2.1 ≠ 0 → w.2.2.2.2.2.2.2.2.1 ≠ 3 → B + d < 2 ^ 30 → (∀ j, 942 ≤ j → v.2.1 j = v1.2.1 j) → v.2.2.1 = v1.2.2.1 → v.2.2.2.1 = v1.2.2.2.1 → ∃ v3 v4 : V12, fb_X12_alarms_48 fu v (nI H) (nI k) = some (rp_ l W g d k w.2.2.2.1 w.2.2.2.2.2.2.2.2.2.2.1, v4) ∧ f_X12_copies v3 4 0 = some v4 ∧ (∀ j, 942 ≤ j → v3.2.1 j = v1.2.1 j) ∧ v3.2.2.1 = v1.2.2.1 ∧ v3.2.2.2.1 = v1.2.2.2.1 := by
  intro d
  induction d with
  | zero =>
    intro fu k B w v hk hf hR hL hW hl hs0 hs3 hB h1 h2 h3
    obtain ⟨fu, rfl⟩ : ∃ m, fu = m + 1 := ⟨fu - 1, by omega⟩
    obtain ⟨F4, f0, f1, f2⟩ := m_copies (a := 4) (b := 0) (by decide) (by decide) (by decide) v
    refine ⟨v, (v.1, F4, v.2.2), ?_, f0, h1, h2, h3⟩
    obtain ⟨c, lg, W', BL, o, hSV, hS, hLm, hO, hC, hP, hQ, hRr, w25, w26, w27, w28, w29, w30, wst⟩ := hR
    show fl_X12_alarms_48 (fb_X12_alarms_48 fu) _ _ _ = _
    unfold fl_X12_alarms_48 f_X12_back
    rw [if_pos (nI_le (by omega) (by omega)), chk_in (show vp_in (27 : Int32) 4725 by unfold vp_in; decide), show ((27 : Int32)).toNatClampNeg = 27 from rfl, show f_X12_copies v (4 : Int32) (0 : Int32) = _ from f0, bnd1_s, bnd2_s, w27]
    rfl
  | succ d ih =>
    intro fu k B w v hk hf hR hL hW hl hs0 hs3 hB h1 h2 h3
    obtain ⟨fu, rfl⟩ : ∃ m, fu = m + 1 := ⟨fu - 1, by omega⟩
    have hgk : v.2.1 (4081 + k) = g k := (h1 (4081 + k) (by omega)).trans (hbit k (by omega)).2
    have hb : isb (v.2.1 (4081 + k)) := by rw [h1 (4081 + k) (by omega)]; exact (hbit k (by omega)).1
    obtain ⟨r, w2, F2, b1, b2, b3, b4, b5, b6, b7, b8, b9⟩ := hear_rel hR hL hb (by omega)
    obtain ⟨p1, p2⟩ := hear_cls b1 hs0 hs3
    rw [hgk, hW] at p1 p2
    rw [hl] at p2
    show ∃ v3 v4 : V12, fl_X12_alarms_48 (fb_X12_alarms_48 fu) v (nI H) (nI k) = some (if fl_ l (hr_ w.2.2.2.1 (g k) W) = 0 then rp_ l W g d (k + 1) (hr_ w.2.2.2.1 (g k) W) w.2.2.2.2.2.2.2.2.2.2.1 else rp_ l W g d (k + 1) (0, 0, 0, 0, 0, 0) (w.2.2.2.2.2.2.2.2.2.2.1 + 1), v4) ∧ f_X12_copies v3 4 0 = some v4 ∧ (∀ j, 942 ≤ j → v3.2.1 j = v1.2.1 j) ∧ v3.2.2.1 = v1.2.2.1 ∧ v3.2.2.2.1 = v1.2.2.2.1
    unfold fl_X12_alarms_48
    rw [if_neg (nI_ge (by omega) (by omega)), show (4081 : Int32) + nI k = nI (4081 + k) from nI_add 4081 k, chk_nI (by omega) (by decide), nI_clamp (by omega), bnd_e, b2, bnd2_s, chk_in (show vp_in (25 : Int32) 4725 by unfold vp_in; decide), show ((25 : Int32)).toNatClampNeg = 25 from rfl]
    dsimp only
    have hL2 : LimM (v.1, F2, v.2.2) w2 := LimM_of hL b4 b5 rfl
    have h1' : ∀ j, 942 ≤ j → F2 j = v1.2.1 j := fun j hj => (b8 j hj).trans (h1 j hj)
    have h25 := b3.st25.1
    rcases p2 with ⟨q1, q2, q3, q4⟩ | ⟨q1, q2, q3⟩
    · rw [if_pos q1, if_neg (show ¬ F2 25 = 3 by rw [h25]; exact q4), bnd_e, nI_1]
      have := ih fu (k + 1) (B + 1) w2 (v.1, F2, v.2.2) (by omega) (by omega) b3 hL2 (by rw [b4]; exact hW) (by rw [b5]; exact hl) q3 q4 (by omega) h1' h2 h3
      rw [p1, q2] at this
      exact this
    · obtain ⟨w3, F3, s1, s2, s3, s4, s5, s6, s7, s8, s9, s10, s11, s12⟩ := starts_rel (v := (v.1, F2, v.2.2)) b3
      rw [if_neg q1, if_pos (show F2 25 = 3 by rw [h25]; exact q3), s2, bnd1_s, bnd_e, nI_1]
      have := ih fu (k + 1) (B + 1) w3 (v.1, F3, v.2.2) (by omega) (by omega) s3 (LimM_of hL2 s4 s5 rfl) (by rw [s4, b4]; exact hW) (by rw [s5, b5]; exact hl) s9 s10 (by omega) (fun j hj => (s12 j hj).trans (h1' j hj)) h2 h3
      rw [s11, s8, q2] at this
      exact this
theorem alarmsE {B : Nat} {w : V10} {v : V12} (hR : R B w v.2.1) (hB : B + 400 < 2 ^ 30) {c lg W H : Nat} (c1 : 8 ≤ c) (c2 : c ≤ 15) (l1 : 1 ≤ lg) (l2 : lg ≤ 40) (hW : w.1.1 2 = nI W) (hW4 : W ≤ 15) (hH : w.2.2.2.2.2.1.2.2 = nI H) (hH4 : H ≤ 400) : ∃ v2 : V12, f_X12_alarms v (nI c) (nI lg) = some (rp_ (nI (lmR c lg), nI (lmP c lg W), nI (lmC lg W)) (nI W) (fun k => v.2.1 (301 + k)) H 0 (0, 0, 0, 0, 0, 0) 0, v2) ∧ SA v v2 := by
  obtain ⟨F1, p0, p1, p2⟩ := m_copies (a := 0) (b := 4) (by decide) (by decide) (by decide) v
  have hR1 : R B w F1 := hR.frame (fun j hj => p2 j (by omega))
  obtain ⟨W2, w1, w2, w3, hV⟩ := hR1.virt c1 c2 l1 l2
  have eW : W2 = W := (nI_eq (by omega) (by omega)).mp (w3.symm.trans hW)
  subst eW
  obtain ⟨v1, q1, q2, q3, q4, q5, q6⟩ := lays2 (v := (v.1, upd (upd (upd F1 0 (nI c)) 1 (nI lg)) 27 0, v.2.2)) hV
  have hV2 := hV
  rw [show upd (upd (upd F1 0 (nI c)) 1 (nI lg)) 27 0 = v1.2.1 from q4.symm] at hV2
  obtain ⟨w4, F3, s1, s2, s3, s4, s5, s6, s7, s8, s9, s10, s11, s12⟩ := starts_rel hV2
  obtain ⟨-, -, -, -, -, -, -, -, -, -, -, hQ, -⟩ := hR
  obtain ⟨H2, h, h1, h2, h3, h4, h5, h6⟩ := hQ
  have eH : H2 = H := (nI_eq (by omega) (by omega)).mp (h3.symm.trans hH)
  subst eH
  have hc : ∀ j, 942 ≤ j → F3 j = F1 j := fun j hj => by
    rw [s12 j hj, q4]
    show upd (upd (upd F1 0 (nI c)) 1 (nI lg)) 27 0 j = F1 j
    rw [upd_n (by omega), upd_n (by omega), upd_n (by omega)]
  have hbit : ∀ k, k < H2 → isb (F1 (4081 + k)) ∧ F1 (4081 + k) = v.2.1 (301 + k) := fun k hk => by
    have e1 := p1 (301 + k) (by omega)
    rw [show 945 * 4 + (301 + k) = 4081 + k by omega, show 945 * 0 + (301 + k) = 301 + k by omega] at e1
    rw [e1]
    exact ⟨(h6 k hk).2, rfl⟩
  obtain ⟨v3, v4, a1, a2, a3, a4, a5⟩ := alarms_loopE (v1 := (v.1, F1, v.2.2)) (g := fun k => v.2.1 (301 + k)) h1 hbit (nI W2) (nI (lmR c lg), nI (lmP c lg W2), nI (lmC lg W2)) H2 FU 0 B w4 (v1.1, F3, v1.2.2) (by omega) (by show H2 < 8589934592; omega) s3 (LimM_of q2 s4 s5 rfl) (by rw [s4]; show upd (upd w.1.1 0 (nI c)) 1 (nI lg) 2 = nI W2; rw [upd_n (by decide), upd_n (by decide)]; exact hW) (by rw [s5]) s9 s10 (by omega) hc q5 q6
  obtain ⟨F4, f0, f1, f2⟩ := m_copies (a := 4) (b := 0) (by decide) (by decide) (by decide) v3
  have e4 : v4 = (v3.1, F4, v3.2.2) := Option.some.inj (a2.symm.trans f0)
  subst e4
  rw [s11, s8] at a1
  refine ⟨(v3.1, F4, v3.2.2), ?_, m_back (v := v) (v1 := (v.1, F1, v.2.2)) (v2 := v3) p1 p2 a3 f1 f2, a4, a5⟩
  unfold f_X12_alarms
  rw [show f_X12_copies v (0 : Int32) (4 : Int32) = _ from p0, bnd1_s, chk_in (show vp_in (300 : Int32) 4725 by unfold vp_in; decide), bnd_e, chk_in (show vp_in (0 : Int32) 4725 by unfold vp_in; decide), bnd_e, chk_in (show vp_in (1 : Int32) 4725 by unfold vp_in; decide), bnd_e, chk_in (show vp_in (27 : Int32) 4725 by unfold vp_in; decide), bnd_e, show ((300 : Int32)).toNatClampNeg = 300 from rfl, show ((0 : Int32)).toNatClampNeg = 0 from rfl, show ((1 : Int32)).toNatClampNeg = 1 from rfl, show ((27 : Int32)).toNatClampNeg = 27 from rfl]
  dsimp only
  rw [q1, bnd1_s, s2, bnd1_s, p2 300 (by omega), h5]
  exact a1
theorem R.histE {B : Nat} {w : V10} {F : Nat → Int32} (hR : R B w F) : ∃ H : Nat, H ≤ 400 ∧ w.2.2.2.2.2.1.2.2 = nI H ∧ ∀ k, k < H → f_X4_bitAt w.2.2.2.2.2.1 (nI k) = some (F (301 + k)) := by
  obtain ⟨-, -, -, -, -, -, -, -, -, -, -, hQ, -⟩ := hR
  obtain ⟨H, h, h1, h2, h3, h4, h5, h6⟩ := hQ
  exact ⟨H, h1, h3, fun k hk => q_at (by omega) h2 h3 h4 h6 hk⟩
theorem e_replayed {B : Nat} {v0 : V11} {v : V12} (hR : R B v0.1 v.2.1) (hB : B + 400 < 2 ^ 30) (p : Int32) : ∃ (r : Int32) (u : V11) (v2 : V12), u.1 = v0.1 ∧ f_X11_replayed v0 p = some (r, u) ∧ f_X12_replayed v p = some (r, v2) ∧ SA v v2 := by
  have hR0 := hR
  obtain ⟨c, lg, W, BL, o, hSV, hS, -⟩ := hR0
  obtain ⟨f0, f1, f2, -⟩ := hSV.cells hS
  obtain ⟨g0, g1, g2, g3, g4, g5, g6, g7, g8, -⟩ := hSV
  obtain ⟨H, h1, h2, h3⟩ := hR.histE
  unfold f_X11_replayed f_X12_replayed
  rw [chk_in (show vp_in (0 : Int32) 9 by unfold vp_in; decide), chk_in (show vp_in (0 : Int32) 9 by unfold vp_in; decide), chk_in (show vp_in (1 : Int32) 4725 by unfold vp_in; decide)]
  by_cases a1 : p < 8
  · refine ⟨-1, v0, (0, v.2), rfl, if_pos a1, ?_, fun _ _ => rfl, rfl, rfl⟩
    unfold f_X12_in
    rw [if_pos a1, bnd1_s, if_pos rfl]
  · have h0 : ¬ p < 0 := fun q => a1 (by
      rw [Int32.lt_iff_toInt_lt] at q ⊢
      rw [show (0 : Int32).toInt = 0 from rfl] at q
      rw [show (8 : Int32).toInt = 8 from rfl]
      omega)
    obtain ⟨n, hn, e⟩ := nI_of h0
    subst e
    have hn8 : 8 ≤ n := Nat.le_of_not_lt (fun q => a1 (nI_lt (b := 8) q (by decide)))
    have i1 : f_X12_in (nI n) 8 15 = some (if (decide (8 ≤ n) && decide (n ≤ 15)) = true then 1 else 0) := m_in2 (a := 8) (b := 15) (by decide) (by decide) hn
    rw [if_neg (show ¬ nI n < stL ((0 : Int32)).toNatClampNeg from a1), i1, bnd1_s]
    by_cases a2 : n ≤ 15
    · obtain ⟨v2, b1, b2⟩ := alarmsE (v := (0, v.2)) hR hB (c := n) (lg := lg) hn8 a2 g4 g5 g6 g8 h2 h1
      obtain ⟨T, tr, ht⟩ := x_lims v0.2.2.2.2.2.1 hn8 a2 g4 g5 g7 g8
      obtain ⟨u, u1, u2⟩ := x_replayE (w := v0.1) (g := fun k => v.2.1 (301 + k)) h1 h2 h3 (nI W) (nI (lmR n lg), nI (lmP n lg W), nI (lmC lg W)) H FU 0 0 (v0.1, v0.2.1, v0.2.2.1, v0.2.2.2.1, v0.2.2.2.2.1, (T, tr, nI (lmR n lg), nI (lmP n lg W), nI (lmC lg W)), (0, 0, 0, 0, 0, 0), v0.2.2.2.2.2.2.2) rfl rfl (by omega) (by show H < 8589934592; omega)
      refine ⟨rp_ (nI (lmR n lg), nI (lmP n lg W), nI (lmC lg W)) (nI W) (fun k => v.2.1 (301 + k)) H 0 (0, 0, 0, 0, 0, 0) 0, u, v2, u2, ?_, ?_, b2⟩
      · unfold f_X1_clear
        rw [if_pos (show nI n ≤ stM ((0 : Int32)).toNatClampNeg from nI_le (b := 15) a2 (by decide)), show f_X7_valueOf v0.1.1 (2 : Int32) = f_X7_valueOf v0.1.1 (nI 2) from rfl, show f_X7_valueOf v0.1.1 (1 : Int32) = f_X7_valueOf v0.1.1 (nI 1) from rfl, val_nI _ (by decide), val_nI _ (by decide), bnd1_s, bnd1_s, g3, g6, ht, bnd1_s, bnd1_s]
        exact u1
      · rw [if_pos (in_dec ⟨hn8, a2⟩), if_neg (show ¬ (1 : Int32) = 0 by decide), show ((1 : Int32)).toNatClampNeg = 1 from rfl, f1, b1, bnd2_s]
    · exact ⟨-1, v0, (0, v.2), rfl, if_neg (show ¬ nI n ≤ stM ((0 : Int32)).toNatClampNeg from nI_ge (a := 15) (by omega) hn), if_pos (by rw [if_neg (in_ndec (by omega))]), fun _ _ => rfl, rfl, rfl⟩
end RE
end mp_73_re
section mp_74_fk
section FK
/-- no test fails -/
def nf_ (l : Int32 × Int32 × Int32) (W : Int32) (g : Nat → Int32) : Nat → Nat → V1 → Bool
  | 0, _, _ => true
  | d + 1, k, c => decide (fl_ l (hr_ c (g k) W) = 0) && nf_ l W g d (k + 1) (hr_ c (g k) W)
theorem rp_mono (l : Int32 × Int32 × Int32) (W : Int32) (g : Nat → Int32) : ∀ (d k : Nat) (c : V1) (m : Nat), ∃ m2 : Nat, m ≤ m2 ∧ m2 ≤ m + d ∧ rp_ l W g d k c (nI m) = nI m2
  | 0, k, c, m => ⟨m, Nat.le_refl _, Nat.le_refl _, rfl⟩
  | d + 1, k, c, m => by
    show ∃ m2 : Nat, m ≤ m2 ∧ m2 ≤ m + (d + 1) ∧ (if fl_ l (hr_ c (g k) W) = 0 then rp_ l W g d (k + 1) (hr_ c (g k) W) (nI m) else rp_ l W g d (k + 1) (0, 0, 0, 0, 0, 0) (nI m + 1)) = nI m2
    by_cases h : fl_ l (hr_ c (g k) W) = 0
    · obtain ⟨m2, a, b, e⟩ := rp_mono l W g d (k + 1) (hr_ c (g k) W) m
      exact ⟨m2, a, by omega, by rw [if_pos h]; exact e⟩
    · obtain ⟨m2, a, b, e⟩ := rp_mono l W g d (k + 1) (0, 0, 0, 0, 0, 0) (m + 1)
      exact ⟨m2, by omega, by omega, by rw [if_neg h, nI_1]; exact e⟩
theorem rp_nf (l : Int32 × Int32 × Int32) (W : Int32) (g : Nat → Int32) : ∀ (d k : Nat) (c : V1), d < 2 ^ 30 → (rp_ l W g d k c 0 = 0 ↔ nf_ l W g d k c = true)
  | 0, k, c, _ => ⟨fun _ => rfl, fun _ => rfl⟩
  | d + 1, k, c, hd => by
    show (if fl_ l (hr_ c (g k) W) = 0 then rp_ l W g d (k + 1) (hr_ c (g k) W) 0 else rp_ l W g d (k + 1) (0, 0, 0, 0, 0, 0) (0 + 1)) = 0 ↔ (decide (fl_ l (hr_ c (g k) W) = 0) && nf_ l W g d (k + 1) (hr_ c (g k) W)) = true
    by_cases h : fl_ l (hr_ c (g k) W) = 0
    · rw [if_pos h, decide_eq_true h, Bool.true_and]
      exact rp_nf l W g d (k + 1) (hr_ c (g k) W) (by omega)
    · rw [if_neg h, decide_eq_false h, Bool.false_and]
      obtain ⟨m2, a, b, e⟩ := rp_mono l W g d (k + 1) (0, 0, 0, 0, 0, 0) 1
      rw [show (0 : Int32) + 1 = nI 1 from rfl, e]
      exact ⟨fun q => absurd ((nI_eq (b := 0) (by omega) (by decide)).mp q) (by omega), fun q => absurd q (by decide)⟩
theorem rp_congr (l : Int32 × Int32 × Int32) (W : Int32) {g g2 : Nat → Int32} : ∀ (d k : Nat) (c : V1) (x : Int32), (∀ j, k ≤ j → j < k + d → g j = g2 j) → rp_ l W g d k c x = rp_ l W g2 d k c x
  | 0, k, c, x, _ => rfl
  | d + 1, k, c, x, h => by
    show (if fl_ l (hr_ c (g k) W) = 0 then rp_ l W g d (k + 1) (hr_ c (g k) W) x else rp_ l W g d (k + 1) (0, 0, 0, 0, 0, 0) (x + 1)) = (if fl_ l (hr_ c (g2 k) W) = 0 then rp_ l W g2 d (k + 1) (hr_ c (g2 k) W) x else rp_ l W g2 d (k + 1) (0, 0, 0, 0, 0, 0) (x + 1))
    rw [h k (Nat.le_refl _) (by omega), rp_congr l W d (k + 1) (hr_ c (g2 k) W) x (fun j h1 h2 => h j (by omega) (by omega)), rp_congr l W d (k + 1) (0, 0, 0, 0, 0, 0) (x + 1) (fun j h1 h2 => h j (by omega) (by omega))]
def ra_ (p c : V1) : V1 := (jmax p.1 c.1, p.2.1, p.2.2.1, p.2.2.2.1, jmax p.2.2.2.2.1 c.2.2.2.2.1, jmax p.2.2.2.2.2 c.2.2.2.2.2)
def pk_ (W : Int32) (g : Nat → Int32) : Nat → Nat → V1 → V1 → V1
  | 0, _, _, p => p
  | d + 1, k, c, p => pk_ W g d (k + 1) (hr_ c (g k) W) (ra_ p (hr_ c (g k) W))
theorem jmax_lt (a b l : Int32) : jmax a b < l ↔ a < l ∧ b < l := by
  unfold jmax
  by_cases h : a < b
  · rw [if_pos h]
    rw [Int32.lt_iff_toInt_lt] at h
    rw [Int32.lt_iff_toInt_lt, Int32.lt_iff_toInt_lt]
    constructor
    · intro q; exact ⟨by omega, q⟩
    · intro q; exact q.2
  · rw [if_neg h]
    rw [Int32.lt_iff_toInt_lt] at h
    rw [Int32.lt_iff_toInt_lt, Int32.lt_iff_toInt_lt]
    constructor
    · intro q; exact ⟨q, by omega⟩
    · intro q; exact q.1
theorem fl_ra (l : Int32 × Int32 × Int32) (p c : V1) : fl_ l (ra_ p c) = 0 ↔ (fl_ l p = 0 ∧ fl_ l c = 0) := by
  rw [fl_0, fl_0, fl_0]
  show (jmax p.1 c.1 < l.1 ∧ jmax p.2.2.2.2.1 c.2.2.2.2.1 < l.2.1 ∧ jmax p.2.2.2.2.2 c.2.2.2.2.2 < l.2.2) ↔ _
  rw [jmax_lt, jmax_lt, jmax_lt]
  constructor
  · intro h; exact ⟨⟨h.1.1, h.2.1.1, h.2.2.1⟩, h.1.2, h.2.1.2, h.2.2.2⟩
  · intro h; exact ⟨⟨h.1.1, h.2.1⟩, ⟨h.1.2.1, h.2.2.1⟩, h.1.2.2, h.2.2.2⟩
theorem pk_nf (l : Int32 × Int32 × Int32) (W : Int32) (g : Nat → Int32) : ∀ (d k : Nat) (c p : V1), fl_ l (pk_ W g d k c p) = 0 ↔ (fl_ l p = 0 ∧ nf_ l W g d k c = true)
  | 0, k, c, p => ⟨fun h => ⟨h, rfl⟩, fun h => h.1⟩
  | d + 1, k, c, p => by
    show fl_ l (pk_ W g d (k + 1) (hr_ c (g k) W) (ra_ p (hr_ c (g k) W))) = 0 ↔ (fl_ l p = 0 ∧ (decide (fl_ l (hr_ c (g k) W) = 0) && nf_ l W g d (k + 1) (hr_ c (g k) W)) = true)
    rw [pk_nf l W g d (k + 1) (hr_ c (g k) W) (ra_ p (hr_ c (g k) W)), fl_ra, Bool.and_eq_true, decide_eq_true_eq]
    constructor
    · intro h; exact ⟨h.1.1, h.1.2, h.2⟩
    · intro h; exact ⟨⟨h.1, h.2.1⟩, h.2.2⟩
theorem x_peaksE {w : V10} {H : Nat} {g : Nat → Int32} (hH : H ≤ 400) (hlen : w.2.2.2.2.2.1.2.2 = nI H) (hat : ∀ k, k < H → f_X4_bitAt w.2.2.2.2.2.1 (nI k) = some (g k)) : ∀ (d fu k : Nat) (v0 : V11), v0.1 = w → k + d = H → d < fu → ∃ u : V11, fb_X11_measurePeaks_16 fu v0 (nI k) = some u ∧ u.1 = w ∧ u.2.2.2.2.2.2.2 = pk_ (w.1.1 2) g d k v0.2.2.2.2.2.2.1 v0.2.2.2.2.2.2.2 := by
  intro d
  induction d with
  | zero =>
    intro fu k v0 hw hk hf
    obtain ⟨fu, rfl⟩ : ∃ m, fu = m + 1 := ⟨fu - 1, by omega⟩
    refine ⟨v0, ?_, hw, rfl⟩
    show fl_X11_measurePeaks_16 (fb_X11_measurePeaks_16 fu) _ _ = _
    unfold fl_X11_measurePeaks_16
    rw [hw, hlen, if_pos (nI_le (by omega) (by omega))]
  | succ d ih =>
    intro fu k v0 hw hk hf
    obtain ⟨fu, rfl⟩ : ∃ m, fu = m + 1 := ⟨fu - 1, by omega⟩
    show ∃ u : V11, fl_X11_measurePeaks_16 (fb_X11_measurePeaks_16 fu) v0 (nI k) = some u ∧ u.1 = w ∧ u.2.2.2.2.2.2.2 = pk_ (w.1.1 2) g d (k + 1) (hr_ v0.2.2.2.2.2.2.1 (g k) (w.1.1 2)) (ra_ v0.2.2.2.2.2.2.2 (hr_ v0.2.2.2.2.2.2.1 (g k) (w.1.1 2)))
    unfold fl_X11_measurePeaks_16 f_X1_raiseTo
    rw [hw, hlen, if_neg (nI_ge (by omega) (by omega)), hat k (by omega), bnd1_s, show f_X7_valueOf w.1 (2 : Int32) = f_X7_valueOf w.1 (nI 2) from rfl, val_nI _ (by decide), bnd1_s, hr_s, bnd1_s, bnd_e, bnd_e, bnd_e, bnd1_s, bnd_e, nI_1]
    exact ih fu (k + 1) (w, v0.2.1, v0.2.2.1, v0.2.2.2.1, v0.2.2.2.2.1, v0.2.2.2.2.2.1, hr_ v0.2.2.2.2.2.2.1 (g k) (w.1.1 2), ra_ v0.2.2.2.2.2.2.2 (hr_ v0.2.2.2.2.2.2.1 (g k) (w.1.1 2))) rfl (by omega) (by omega)
theorem x_passE {v0 : V11} {c lg W : Nat} (hW : v0.1.1.1 2 = nI W) (c1 : 8 ≤ c) (c2 : c ≤ 15) (l1 : 1 ≤ lg) (l2 : lg ≤ 40) (w1 : 4 ≤ W) (w2 : W ≤ 15) : ∃ u : V11, f_X11_peaksPass v0 (nI c) (nI lg) = some ((if fl_ (nI (lmR c lg), nI (lmP c lg W), nI (lmC lg W)) v0.2.2.2.2.2.2.2 = 0 then 1 else 0), u) ∧ u.1 = v0.1 ∧ u.2.2.2.2.2.2.2 = v0.2.2.2.2.2.2.2 := by
  unfold f_X11_peaksPass
  obtain ⟨T, tr, ht⟩ := x_lims v0.2.2.2.2.2.1 c1 c2 l1 l2 w1 w2
  rw [show f_X7_valueOf v0.1.1 (2 : Int32) = f_X7_valueOf v0.1.1 (nI 2) from rfl, val_nI _ (by decide), bnd1_s, hW, ht, bnd1_s, fl_s, bnd1_s]
  refine ⟨(v0.1, v0.2.1, v0.2.2.1, v0.2.2.2.1, v0.2.2.2.2.1, (T, tr, nI (lmR c lg), nI (lmP c lg W), nI (lmC lg W)), v0.2.2.2.2.2.2), ?_, rfl, rfl⟩
  by_cases h : fl_ (nI (lmR c lg), nI (lmP c lg W), nI (lmC lg W)) v0.2.2.2.2.2.2.2 = 0
  · rw [if_pos h, if_pos h]
  · rw [if_neg h, if_neg h]
/-- limits are never 0 -/
theorem lim_pos {c lg W : Nat} (w1 : 4 ≤ W) (w2 : W ≤ 15) : fl_ (nI (lmR c lg), nI (lmP c lg W), nI (lmC lg W)) (0, 0, 0, 0, 0, 0) = 0 := by
  rw [fl_0]
  have a := fst_no (fun k => decide (lg ≤ 4 * (k - 1)) && decide (c ^ (k - 1) ≤ 2 ^ (4 * (k - 1) - lg))) (n := 16) (a := 2) (d := 14) rfl
  have b := fst_no (fun k => rareb (TS c (W - 1) (k - 1)) (4 * (W - 1)) lg) (n := W + 1) (a := 2) (d := W - 1) (by omega)
  have e := fst_no (fun k => rareb (TS 8 (W - 1) k) (4 * (W - 1)) lg) (n := W) (a := 1) (d := W - 1) (by omega)
  have a' : 2 ≤ lmR c lg ∧ lmR c lg ≤ 16 := ⟨a.1, a.2.1⟩
  have b' : 2 ≤ lmP c lg W ∧ lmP c lg W ≤ W + 1 := ⟨b.1, b.2.1⟩
  have e' : 1 ≤ lmC lg W ∧ lmC lg W ≤ W := ⟨e.1, e.2.1⟩
  exact ⟨nI_lt (a := 0) (by omega) (by omega), nI_lt (a := 0) (by omega) (by omega), nI_lt (a := 0) (by omega) (by omega)⟩
theorem fit_key {c lg W H : Nat} (g : Nat → Int32) (hH : H ≤ 400) (w1 : 4 ≤ W) (w2 : W ≤ 15) : rp_ (nI (lmR c lg), nI (lmP c lg W), nI (lmC lg W)) (nI W) g H 0 (0, 0, 0, 0, 0, 0) 0 = 0 ↔ fl_ (nI (lmR c lg), nI (lmP c lg W), nI (lmC lg W)) (pk_ (nI W) g H 0 (0, 0, 0, 0, 0, 0) (0, 0, 0, 0, 0, 0)) = 0 := by
  rw [rp_nf _ _ _ _ _ _ (by omega), pk_nf]
  exact ⟨fun h => ⟨lim_pos w1 w2, h⟩, fun h => h.2⟩
theorem fit_loop {B : Nat} {w : V10} (hB : B + 400 < 2 ^ 30) {W lg H : Nat} {g : Nat → Int32} (hW : w.1.1 2 = nI W) (hl : w.1.1 1 = nI lg) (l1 : 1 ≤ lg) (l2 : lg ≤ 40) (w1 : 4 ≤ W) (w2 : W ≤ 15) (hH : w.2.2.2.2.2.1.2.2 = nI H) (hH4 : H ≤ 400) : ∀ (d f1 f2 k : Nat) (v0 : V11) (v : V12), v0.1 = w → v0.2.2.2.2.2.2.2 = pk_ (nI W) g H 0 (0, 0, 0, 0, 0, 0) (0, 0, 0, 0, 0, 0) → R B w v.2.1 → (∀ j, j < H → v.2.1 (301 + j) = g j) → k + d = 16 → 8 ≤ k → d < f1 → d < f2 → ∃ (r : Int32) (u : V11) (v2 : V12), fb_X11_fit_10 f1 v0 (nI k) = some (r, u) ∧ u.1 = w ∧ fb_X12_fit_8 f2 v (nI k) = some (r, v2) ∧ SA v v2 := by
  intro d
  induction d with
  | zero =>
    intro f1 f2 k v0 v hw hp hR hg hk h8 hf1 hf2
    obtain ⟨f1, rfl⟩ : ∃ m, f1 = m + 1 := ⟨f1 - 1, by omega⟩
    obtain ⟨f2, rfl⟩ : ∃ m, f2 = m + 1 := ⟨f2 - 1, by omega⟩
    have hk : k = 16 := by omega
    subst hk
    refine ⟨-1, v0, v, ?_, hw, ?_, fun _ _ => rfl, rfl, rfl⟩
    · show fl_X11_fit_10 (fb_X11_fit_10 f1) _ _ = _
      unfold fl_X11_fit_10
      rw [chk_in (show vp_in (0 : Int32) 9 by unfold vp_in; decide), if_pos (by decide)]
    · show fl_X12_fit_8 (fb_X12_fit_8 f2) _ _ = _
      unfold fl_X12_fit_8
      rw [if_pos (by decide)]
  | succ d ih =>
    intro f1 f2 k v0 v hw hp hR hg hk h8 hf1 hf2
    obtain ⟨f1, rfl⟩ : ∃ m, f1 = m + 1 := ⟨f1 - 1, by omega⟩
    obtain ⟨f2, rfl⟩ : ∃ m, f2 = m + 1 := ⟨f2 - 1, by omega⟩
    show ∃ (r : Int32) (u : V11) (v2 : V12), fl_X11_fit_10 (fb_X11_fit_10 f1) v0 (nI k) = some (r, u) ∧ u.1 = w ∧ fl_X12_fit_8 (fb_X12_fit_8 f2) v (nI k) = some (r, v2) ∧ SA v v2
    unfold fl_X11_fit_10 fl_X12_fit_8
    have hR0 := hR
    obtain ⟨-, -, -, -, -, -, hS, -⟩ := hR0
    have f1' : v.2.1 1 = nI lg := (hS.1 1 (by decide)).trans hl
    obtain ⟨u, u1, u2, u3⟩ := x_passE (v0 := v0) (c := k) (lg := lg) (by rw [hw]; exact hW) h8 (by omega) l1 l2 w1 w2
    obtain ⟨v2, a1, a2⟩ := alarmsE hR hB (c := k) (lg := lg) h8 (by omega) l1 l2 hW w2 hH hH4
    rw [rp_congr _ _ H 0 _ _ (fun j _ hj => hg j (by omega))] at a1
    rw [hp] at u1
    have key := fit_key (c := k) (lg := lg) (W := W) g hH4 w1 w2
    rw [chk_in (show vp_in (0 : Int32) 9 by unfold vp_in; decide), if_neg (show ¬ stM ((0 : Int32)).toNatClampNeg < nI k from nI_nlt (a := 15) (by omega) (by decide)), show f_X7_valueOf v0.1.1 (1 : Int32) = f_X7_valueOf v0.1.1 (nI 1) from rfl, val_nI _ (by decide), bnd1_s, show v0.1.1.1 1 = nI lg by rw [hw]; exact hl, u1, bnd2_s, if_neg (show ¬ (16 : Int32) ≤ nI k from nI_ge (b := 16) (by omega) (by decide)), chk_in (show vp_in (1 : Int32) 4725 by unfold vp_in; decide), show ((1 : Int32)).toNatClampNeg = 1 from rfl, f1', a1, bnd2_s]
    by_cases h : fl_ (nI (lmR k lg), nI (lmP k lg W), nI (lmC lg W)) (pk_ (nI W) g H 0 (0, 0, 0, 0, 0, 0) (0, 0, 0, 0, 0, 0)) = 0
    · rw [if_neg (show ¬ (if fl_ (nI (lmR k lg), nI (lmP k lg W), nI (lmC lg W)) (pk_ (nI W) g H 0 (0, 0, 0, 0, 0, 0) (0, 0, 0, 0, 0, 0)) = 0 then (1 : Int32) else 0) = 0 by rw [if_pos h]; decide), if_pos (key.mpr h)]
      exact ⟨nI k, (u.1, v0.2.1, v0.2.2.1, v0.2.2.2.1, v0.2.2.2.2.1, u.2.2.2.2.2.1, v0.2.2.2.2.2.2.1, u.2.2.2.2.2.2.2), v2, rfl, u2.trans hw, rfl, a2⟩
    · rw [if_pos (show (if fl_ (nI (lmR k lg), nI (lmP k lg W), nI (lmC lg W)) (pk_ (nI W) g H 0 (0, 0, 0, 0, 0, 0) (0, 0, 0, 0, 0, 0)) = 0 then (1 : Int32) else 0) = 0 by rw [if_neg h]), if_neg (fun q => h (key.mp q)), bnd_e, bnd_e, nI_1]
      obtain ⟨r, u', v3, i1, i2, i3, i4⟩ := ih f1 f2 (k + 1) (u.1, v0.2.1, v0.2.2.1, v0.2.2.2.1, v0.2.2.2.2.1, u.2.2.2.2.2.1, v0.2.2.2.2.2.2.1, u.2.2.2.2.2.2.2) v2 (u2.trans hw) (u3.trans hp) (hR.frame (fun j hj => a2.1 j (by omega))) (fun j hj => (a2.1 (301 + j) (by omega)).trans (hg j hj)) (by omega) (by omega) (by omega) (by omega)
      exact ⟨r, u', v3, i1, i2, i3, a2.trans i4⟩
theorem keen_loop {B : Nat} {w : V10} (hB : B + 400 < 2 ^ 30) {W c H : Nat} {g : Nat → Int32} (hW : w.1.1 2 = nI W) (hc : w.1.1 0 = nI c) (c1 : 8 ≤ c) (c2 : c ≤ 15) (w1 : 4 ≤ W) (w2 : W ≤ 15) (hH : w.2.2.2.2.2.1.2.2 = nI H) (hH4 : H ≤ 400) : ∀ (d f1 f2 k : Nat) (v0 : V11) (v : V12), v0.1 = w → v0.2.2.2.2.2.2.2 = pk_ (nI W) g H 0 (0, 0, 0, 0, 0, 0) (0, 0, 0, 0, 0, 0) → R B w v.2.1 → (∀ j, j < H → v.2.1 (301 + j) = g j) → k + d = 41 → 1 ≤ k → d < f1 → d < f2 → ∃ (r : Int32) (u : V11) (v2 : V12), fb_X11_keen_10 f1 v0 (nI k) = some (r, u) ∧ u.1 = w ∧ fb_X12_keen_7 f2 v (nI k) = some (r, v2) ∧ SA v v2 := by
  intro d
  induction d with
  | zero =>
    intro f1 f2 k v0 v hw hp hR hg hk h8 hf1 hf2
    obtain ⟨f1, rfl⟩ : ∃ m, f1 = m + 1 := ⟨f1 - 1, by omega⟩
    obtain ⟨f2, rfl⟩ : ∃ m, f2 = m + 1 := ⟨f2 - 1, by omega⟩
    have hk : k = 41 := by omega
    subst hk
    refine ⟨-1, v0, v, ?_, hw, ?_, fun _ _ => rfl, rfl, rfl⟩
    · show fl_X11_keen_10 (fb_X11_keen_10 f1) _ _ = _
      unfold fl_X11_keen_10
      rw [chk_in (show vp_in (1 : Int32) 9 by unfold vp_in; decide), if_pos (by decide)]
    · show fl_X12_keen_7 (fb_X12_keen_7 f2) _ _ = _
      unfold fl_X12_keen_7
      rw [if_pos (by decide)]
  | succ d ih =>
    intro f1 f2 k v0 v hw hp hR hg hk h8 hf1 hf2
    obtain ⟨f1, rfl⟩ : ∃ m, f1 = m + 1 := ⟨f1 - 1, by omega⟩
    obtain ⟨f2, rfl⟩ : ∃ m, f2 = m + 1 := ⟨f2 - 1, by omega⟩
    show ∃ (r : Int32) (u : V11) (v2 : V12), fl_X11_keen_10 (fb_X11_keen_10 f1) v0 (nI k) = some (r, u) ∧ u.1 = w ∧ fl_X12_keen_7 (fb_X12_keen_7 f2) v (nI k) = some (r, v2) ∧ SA v v2
    unfold fl_X11_keen_10 fl_X12_keen_7
    have hR0 := hR
    obtain ⟨-, -, -, -, -, -, hS, -⟩ := hR0
    have f0' : v.2.1 0 = nI c := (hS.1 0 (by decide)).trans hc
    obtain ⟨u, u1, u2, u3⟩ := x_passE (v0 := v0) (c := c) (lg := k) (by rw [hw]; exact hW) c1 c2 h8 (by omega) w1 w2
    obtain ⟨v2, a1, a2⟩ := alarmsE hR hB (c := c) (lg := k) c1 c2 h8 (by omega) hW w2 hH hH4
    rw [rp_congr _ _ H 0 _ _ (fun j _ hj => hg j (by omega))] at a1
    rw [hp] at u1
    have key := fit_key (c := c) (lg := k) (W := W) g hH4 w1 w2
    rw [chk_in (show vp_in (1 : Int32) 9 by unfold vp_in; decide), if_neg (show ¬ stM ((1 : Int32)).toNatClampNeg < nI k from nI_nlt (a := 40) (by omega) (by decide)), show f_X7_valueOf v0.1.1 (0 : Int32) = f_X7_valueOf v0.1.1 (nI 0) from rfl, val_nI _ (by decide), bnd1_s, show v0.1.1.1 0 = nI c by rw [hw]; exact hc, u1, bnd2_s, if_neg (show ¬ (40 : Int32) < nI k from nI_nlt (a := 40) (by omega) (by decide)), chk_in (show vp_in (0 : Int32) 4725 by unfold vp_in; decide), show ((0 : Int32)).toNatClampNeg = 0 from rfl, f0', a1, bnd2_s]
    by_cases h : fl_ (nI (lmR c k), nI (lmP c k W), nI (lmC k W)) (pk_ (nI W) g H 0 (0, 0, 0, 0, 0, 0) (0, 0, 0, 0, 0, 0)) = 0
    · rw [if_neg (show ¬ (if fl_ (nI (lmR c k), nI (lmP c k W), nI (lmC k W)) (pk_ (nI W) g H 0 (0, 0, 0, 0, 0, 0) (0, 0, 0, 0, 0, 0)) = 0 then (1 : Int32) else 0) = 0 by rw [if_pos h]; decide), if_pos (key.mpr h)]
      exact ⟨nI k, (u.1, v0.2.1, v0.2.2.1, v0.2.2.2.1, v0.2.2.2.2.1, u.2.2.2.2.2.1, v0.2.2.2.2.2.2.1, u.2.2.2.2.2.2.2), v2, rfl, u2.trans hw, rfl, a2⟩
    · rw [if_pos (show (if fl_ (nI (lmR c k), nI (lmP c k W), nI (lmC k W)) (pk_ (nI W) g H 0 (0, 0, 0, 0, 0, 0) (0, 0, 0, 0, 0, 0)) = 0 then (1 : Int32) else 0) = 0 by rw [if_neg h]), if_neg (fun q => h (key.mp q)), bnd_e, bnd_e, nI_1]
      obtain ⟨r, u', v3, i1, i2, i3, i4⟩ := ih f1 f2 (k + 1) (u.1, v0.2.1, v0.2.2.1, v0.2.2.2.1, v0.2.2.2.2.1, u.2.2.2.2.2.1, v0.2.2.2.2.2.2.1, u.2.2.2.2.2.2.2) v2 (u2.trans hw) (u3.trans hp) (hR.frame (fun j hj => a2.1 j (by omega))) (fun j hj => (a2.1 (301 + j) (by omega)).trans (hg j hj)) (by omega) (by omega) (by omega) (by omega)
      exact ⟨r, u', v3, i1, i2, i3, a2.trans i4⟩
theorem x_mpkE {B : Nat} {v0 : V11} {F : Nat → Int32} (hR : R B v0.1 F) : ∃ (H : Nat) (u : V11), H ≤ 400 ∧ v0.1.2.2.2.2.2.1.2.2 = nI H ∧ f_X11_measurePeaks v0 = some u ∧ u.1 = v0.1 ∧ u.2.2.2.2.2.2.2 = pk_ (v0.1.1.1 2) (fun k => F (301 + k)) H 0 (0, 0, 0, 0, 0, 0) (0, 0, 0, 0, 0, 0) := by
  obtain ⟨H, h1, h2, h3⟩ := hR.histE
  obtain ⟨u, u1, u2, u3⟩ := x_peaksE (w := v0.1) (g := fun k => F (301 + k)) h1 h2 h3 H FU 0 (v0.1, v0.2.1, v0.2.2.1, v0.2.2.2.1, v0.2.2.2.2.1, v0.2.2.2.2.2.1, (0, 0, 0, 0, 0, 0), (0, 0, 0, 0, 0, 0)) rfl (by omega) (by show H < 8589934592; omega)
  refine ⟨H, u, h1, h2, ?_, u2, u3⟩
  unfold f_X11_measurePeaks f_X1_clear
  rw [bnd1_s, bnd1_s]
  exact u1
theorem e_fit {B : Nat} {v0 : V11} {v : V12} (hR : R B v0.1 v.2.1) (hB : B + 400 < 2 ^ 30) : ∃ (r : Int32) (u : V11) (v2 : V12), u.1 = v0.1 ∧ f_X11_fit v0 = some (r, u) ∧ f_X12_fit v = some (r, v2) ∧ SA v v2 := by
  have hR0 := hR
  obtain ⟨c, lg, W, BL, o, hSV, hS, -⟩ := hR0
  obtain ⟨g0, g1, g2, g3, g4, g5, g6, g7, g8, -⟩ := hSV
  obtain ⟨H, u1, h1, h2, p1, p2, p3⟩ := x_mpkE hR
  rw [g6] at p3
  obtain ⟨r, u, v2, q1, q2, q3, q4⟩ := fit_loop (w := v0.1) (g := fun k => v.2.1 (301 + k)) hB g6 g3 g4 g5 g7 g8 h2 h1 8 FU FU 8 (u1.1, v0.2.1, v0.2.2.1, v0.2.2.2.1, v0.2.2.2.2.1, v0.2.2.2.2.2.1, u1.2.2.2.2.2.2) (0, v.2) p2 p3 hR (fun _ _ => rfl) (by omega) (by omega) (by decide) (by decide)
  refine ⟨r, u, v2, q2, ?_, q3, q4⟩
  unfold f_X11_fit
  rw [p1, bnd1_s, chk_in (show vp_in (0 : Int32) 9 by unfold vp_in; decide), bnd_e]
  exact q1
theorem e_keen {B : Nat} {v0 : V11} {v : V12} (hR : R B v0.1 v.2.1) (hB : B + 400 < 2 ^ 30) : ∃ (r : Int32) (u : V11) (v2 : V12), u.1 = v0.1 ∧ f_X11_keen v0 = some (r, u) ∧ f_X12_keen v = some (r, v2) ∧ SA v v2 := by
  have hR0 := hR
  obtain ⟨c, lg, W, BL, o, hSV, hS, -⟩ := hR0
  obtain ⟨g0, g1, g2, g3, g4, g5, g6, g7, g8, -⟩ := hSV
  obtain ⟨H, u1, h1, h2, p1, p2, p3⟩ := x_mpkE hR
  rw [g6] at p3
  obtain ⟨r, u, v2, q1, q2, q3, q4⟩ := keen_loop (w := v0.1) (g := fun k => v.2.1 (301 + k)) hB g6 g0 g1 g2 g7 g8 h2 h1 40 FU FU 1 (u1.1, v0.2.1, v0.2.2.1, v0.2.2.2.1, v0.2.2.2.2.1, v0.2.2.2.2.2.1, u1.2.2.2.2.2.2) (0, v.2) p2 p3 hR (fun _ _ => rfl) (by omega) (by omega) (by decide) (by decide)
  refine ⟨r, u, v2, q2, ?_, q3, q4⟩
  unfold f_X11_keen
  rw [p1, bnd1_s, chk_in (show vp_in (1 : Int32) 9 by unfold vp_in; decide), bnd_e]
  exact q1
end FK
end mp_74_fk
