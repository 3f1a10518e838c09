section XL
theorem updL_s (f : Nat → Int64) (k : Nat) (x : Int64) : vp_updL f k x k = x := if_pos rfl
theorem updL_n {f : Nat → Int64} {k j : Nat} {x : Int64} (h : j ≠ k) : vp_updL f k x j = f j := if_neg h
theorem zz_get (a b : Nat) : ∀ (l : List Nat) (y j : Nat), (List.zipWith (· + ·) (l.map (· * a) ++ [0]) (y :: l.map (· * b))).getD j 0 = l.getD j 0 * a + (if j = 0 then y else l.getD (j - 1) 0 * b)
  | [], y, j => by
    cases j with
    | zero => simp
    | succ j => simp
  | x :: l, y, j => by
    have ih := zz_get a b l (x * b)
    cases j with
    | zero => simp
    | succ j =>
      have h1 := ih j
      show (List.zipWith (· + ·) (l.map (· * a) ++ [0]) (x * b :: l.map (· * b))).getD j 0 = l.getD j 0 * a + (if j + 1 = 0 then y else (x :: l).getD (j + 1 - 1) 0 * b)
      rw [h1, if_neg (show ¬ j + 1 = 0 by omega)]
      cases j with
      | zero => rfl
      | succ j => rw [if_neg (show ¬ j + 1 = 0 by omega)]; rfl
/-- Pascal's numbers -/
def pq (c n j : Nat) : Nat := (prow c n).getD j 0
theorem pq_0 (c n : Nat) : pq c (n + 1) 0 = pq c n 0 * (16 - c) := by
  show (rstep c (prow c n)).getD 0 0 = _
  unfold rstep
  rw [zz_get, if_pos rfl, Nat.add_zero]
  rfl
theorem pq_s (c n j : Nat) : pq c (n + 1) (j + 1) = pq c n (j + 1) * (16 - c) + pq c n j * c := by
  show (rstep c (prow c n)).getD (j + 1) 0 = _
  unfold rstep
  rw [zz_get, if_neg (by omega)]
  rfl
theorem prow_len (c : Nat) : ∀ n, (prow c n).length = n + 1
  | 0 => rfl
  | n + 1 => by
    have ih := prow_len c n
    show (rstep c (prow c n)).length = _
    unfold rstep
    simp [ih]
theorem pq_out (c n j : Nat) (h : n < j) : pq c n j = 0 := by
  unfold pq
  rw [List.getD_eq_getElem?_getD, List.getElem?_eq_none (by rw [prow_len]; omega)]
  rfl
theorem TS_step (c n k : Nat) : TS c n k = pq c n k + TS c n (k + 1) := by
  unfold TS pq
  by_cases h : k < (prow c n).length
  · rw [List.drop_eq_getElem_cons h, List.sum_cons, List.getD_eq_getElem?_getD, List.getElem?_eq_getElem h]
    rfl
  · rw [List.drop_eq_nil_of_le (by omega), List.drop_eq_nil_of_le (by omega), List.getD_eq_getElem?_getD, List.getElem?_eq_none (by omega)]
    rfl
theorem TS_out (c n j : Nat) (h : n < j) : TS c n j = 0 := by
  unfold TS
  rw [List.drop_eq_nil_of_le (by rw [prow_len]; omega)]
  rfl
theorem x_zero : ∀ (d fu k : Nat) (T : Nat → Int64), k + d = 17 → d < fu → ∃ T2 : Nat → Int64, fb_J7_fill_d0a16_6 17 fu T 0 (nI k) (nI 17) = some T2 ∧ (∀ j, k ≤ j → j < 17 → T2 j = 0) ∧ ∀ j, j < k → T2 j = T j := by
  intro d
  induction d with
  | zero =>
    intro fu k T hk hf
    obtain ⟨fu, rfl⟩ : ∃ m, fu = m + 1 := ⟨fu - 1, by omega⟩
    refine ⟨T, ?_, fun j a b => absurd b (by omega), fun _ _ => rfl⟩
    unfold fb_J7_fill_d0a16_6 fl_J7_fill_d0a16_6
    rw [if_pos (nI_le (by omega) (by omega))]
  | succ d ih =>
    intro fu k T hk hf
    obtain ⟨fu, rfl⟩ : ∃ m, fu = m + 1 := ⟨fu - 1, by omega⟩
    obtain ⟨T2, i1, i2, i3⟩ := ih fu (k + 1) (vp_updL T k 0) (by omega) (by omega)
    refine ⟨T2, ?_, fun j a b => ?_, fun j a => ?_⟩
    · unfold fb_J7_fill_d0a16_6 fl_J7_fill_d0a16_6
      rw [if_neg (nI_ge (by omega) (by omega)), chk_nI (by omega) (by decide), nI_clamp (by omega), bnd_e, bnd_e, nI_1]
      exact i1
    · by_cases hj : j = k
      · subst hj
        rw [i3 j (by omega), updL_s]
      · exact i2 j (by omega) b
    · rw [i3 j (by omega), updL_n (by omega)]
theorem x_inner {c : Nat} (hc : c ≤ 15) (P Q : Nat → Nat) (hQ0 : Q 0 = P 0 * (16 - c)) (hQ : ∀ j, Q (j + 1) = P (j + 1) * (16 - c) + P j * c) (k31 : V2 → Int32 → Int32 → Option V2) (tr : Int32) (rest : Int32 × Int32 × Int32) {i : Nat} (hi : i < 15) : ∀ (y fu : Nat) (T : Nat → Int64), y ≤ i + 1 → y < fu → (∀ j, j < 17 → T j = lN (if j < y then P j else if j = y then P y * (16 - c) else Q j)) → ∃ T2 : Nat → Int64, fb_X2_fill_48 k31 fu (T, tr, rest) (nI c) (nI i) (nI y - 1) = k31 (T2, tr, rest) (nI c) (nI (i + 1)) ∧ ∀ j, j < 17 → T2 j = lN (Q j) := by
  intro y
  induction y with
  | zero =>
    intro fu T hy hf hT
    obtain ⟨fu, rfl⟩ : ∃ m, fu = m + 1 := ⟨fu - 1, by omega⟩
    refine ⟨T, ?_, fun j hj => ?_⟩
    · show fl_X2_fill_48 k31 (fb_X2_fill_48 k31 fu) (T, tr, rest) (nI c) (nI i) (nI 0 - 1) = _
      unfold fl_X2_fill_48
      rw [if_pos (by decide), bnd_e, nI_1]
    · rw [hT j hj, if_neg (by omega)]
      by_cases h : j = 0
      · subst h; rw [if_pos rfl, hQ0]
      · rw [if_neg h]
  | succ y ih =>
    intro fu T hy hf hT
    obtain ⟨fu, rfl⟩ : ∃ m, fu = m + 1 := ⟨fu - 1, by omega⟩
    have t1 : T (y + 1) = lN (P (y + 1) * (16 - c)) := by rw [hT (y + 1) (by omega), if_neg (by omega), if_pos rfl]
    have t0 : T y = lN (P y) := by rw [hT y (by omega), if_pos (by omega)]
    obtain ⟨T2, i1, i2⟩ := ih fu (vp_updL (vp_updL T (y + 1) (lN (Q (y + 1)))) y (lN (P y * (16 - c)))) (by omega) (by omega) (fun j hj => by
      by_cases h1 : j = y
      · subst h1
        rw [updL_s, if_neg (by omega), if_pos rfl]
      · rw [updL_n h1]
        by_cases h2 : j = y + 1
        · subst h2
          rw [updL_s, if_neg (by omega), if_neg (by omega)]
        · rw [updL_n h2, hT j hj]
          by_cases h3 : j < y
          · rw [if_pos (by omega), if_pos h3]
          · rw [if_neg (by omega), if_neg h2, if_neg h3, if_neg h1])
    refine ⟨T2, ?_, i2⟩
    show fl_X2_fill_48 k31 (fb_X2_fill_48 k31 fu) (T, tr, rest) (nI c) (nI i) (nI (y + 1) - 1) = _
    unfold fl_X2_fill_48
    rw [nI_pred, if_neg (nI_pos (by omega)), bnd_e, nI_1, chk_nI (by omega) (by decide), chk_nI (by omega) (by decide), chk_nI (by omega) (by decide), bnd_e, chk_nI (by omega) (by decide), chk_nI (by omega) (by decide), bnd_e, bnd_e, nI_clamp (by omega), nI_clamp (by omega), add_m1]
    dsimp only
    rw [t1, t0, updL_n (show y ≠ y + 1 by omega), t0, show (16 : Int32) - nI c = nI (16 - c) from pk_sub (a := 16) (by omega), nI_l (by omega), nI_l (by omega), lN_mul, lN_add, lN_mul, ← hQ y]
    exact i1
theorem x_outer {c n : Nat} (hc : c ≤ 15) (hn : n ≤ 15) (rest : Int32 × Int32 × Int32) : ∀ (d fu i : Nat) (T : Nat → Int64), i + d = n → d < fu → (∀ j, j < 17 → T j = lN (pq c i j)) → ∃ T2 : Nat → Int64, fb_X2_fill_31 fu (T, nI n, rest) (nI c) (nI i) = fc_X2_fill_102 (T2, nI n, rest) ∧ ∀ j, j < 17 → T2 j = lN (pq c n j) := by
  intro d
  induction d with
  | zero =>
    intro fu i T hi hf hT
    obtain ⟨fu, rfl⟩ : ∃ m, fu = m + 1 := ⟨fu - 1, by omega⟩
    have hi : i = n := by omega
    subst hi
    refine ⟨T, ?_, hT⟩
    show fl_X2_fill_31 (fb_X2_fill_31 fu) (T, nI i, rest) (nI c) (nI i) = _
    unfold fl_X2_fill_31
    rw [if_pos (Int32.le_refl _)]
  | succ d ih =>
    intro fu i T hi hf hT
    obtain ⟨fu, rfl⟩ : ∃ m, fu = m + 1 := ⟨fu - 1, by omega⟩
    obtain ⟨T1, a1, a2⟩ := x_inner hc (pq c i) (pq c (i + 1)) (pq_0 c i) (pq_s c i) (fb_X2_fill_31 fu) (nI n) rest (i := i) (by omega) (i + 1) FU T (by omega) (by show i + 1 < 8589934592; omega) (fun j hj => by
      rw [hT j hj]
      by_cases h1 : j < i + 1
      · rw [if_pos h1]
      · rw [if_neg h1, pq_out c i j (by omega)]
        by_cases h2 : j = i + 1
        · rw [if_pos h2, pq_out c i (i + 1) (by omega), Nat.zero_mul]
        · rw [if_neg h2, pq_out c (i + 1) j (by omega)])
    obtain ⟨T2, b1, b2⟩ := ih fu (i + 1) T1 (by omega) (by omega) a2
    refine ⟨T2, ?_, b2⟩
    show fl_X2_fill_31 (fb_X2_fill_31 fu) (T, nI n, rest) (nI c) (nI i) = _
    unfold fl_X2_fill_31
    rw [if_neg (nI_ge (by omega) (by omega)), if_neg (show ¬ (15 : Int32) ≤ nI i from nI_ge (b := 15) (by omega) (by decide))]
    rw [nI_pred] at a1
    rw [a1, b1]
theorem x_sums {c n : Nat} (hn : n ≤ 15) (tr : Int32) (rest : Int32 × Int32 × Int32) : ∀ (y fu : Nat) (T : Nat → Int64), y ≤ n → y < fu → (∀ j, j < 17 → T j = lN (if j < y then pq c n j else TS c n j)) → ∃ T2 : Nat → Int64, fb_X2_fill_114 fu (T, tr, rest) (nI y - 1) = some (T2, tr, rest) ∧ ∀ j, j < 17 → T2 j = lN (TS c n j) := by
  intro y
  induction y with
  | zero =>
    intro fu T hy hf hT
    obtain ⟨fu, rfl⟩ : ∃ m, fu = m + 1 := ⟨fu - 1, by omega⟩
    refine ⟨T, ?_, fun j hj => ?_⟩
    · show fl_X2_fill_114 (fb_X2_fill_114 fu) (T, tr, rest) (nI 0 - 1) = _
      unfold fl_X2_fill_114
      rw [if_pos (by decide)]
    · rw [hT j hj, if_neg (by omega)]
  | succ y ih =>
    intro fu T hy hf hT
    obtain ⟨fu, rfl⟩ : ∃ m, fu = m + 1 := ⟨fu - 1, by omega⟩
    have t0 : T y = lN (pq c n y) := by rw [hT y (by omega), if_pos (by omega)]
    have t1 : T (y + 1) = lN (TS c n (y + 1)) := by rw [hT (y + 1) (by omega), if_neg (by omega)]
    obtain ⟨T2, i1, i2⟩ := ih fu (vp_updL T y (lN (TS c n y))) (by omega) (by omega) (fun j hj => by
      by_cases h1 : j = y
      · subst h1
        rw [updL_s, if_neg (by omega)]
      · rw [updL_n h1, hT j hj]
        by_cases h2 : j < y
        · rw [if_pos (by omega), if_pos h2]
        · rw [if_neg (by omega), if_neg h2])
    refine ⟨T2, ?_, i2⟩
    show fl_X2_fill_114 (fb_X2_fill_114 fu) (T, tr, rest) (nI (y + 1) - 1) = _
    unfold fl_X2_fill_114
    rw [nI_pred, if_neg (nI_pos (by omega)), chk_nI (by omega) (by decide), nI_1, chk_nI (by omega) (by decide), chk_nI (by omega) (by decide), bnd_e, bnd_e, nI_clamp (by omega), nI_clamp (by omega), add_m1]
    dsimp only
    rw [t0, t1, lN_add, ← TS_step]
    exact i1
theorem x_fill (v : V2) {c n : Nat} (hc : c ≤ 15) (hn : n ≤ 15) : ∃ T : Nat → Int64, f_X2_fill v (nI n) (nI c) = some (T, nI n, v.2.2) ∧ ∀ j, j < 17 → T j = lN (TS c n j) := by
  obtain ⟨T0, a1, a2, -⟩ := x_zero 17 FU 0 v.1 (by omega) (by decide)
  obtain ⟨T1, b1, b2⟩ := x_outer hc hn v.2.2 n FU 0 (vp_updL T0 0 1) (by omega) (by show n < 8589934592; omega) (fun j hj => by
    by_cases h : j = 0
    · subst h; rw [updL_s]; rfl
    · rw [updL_n h, a2 j (by omega) hj, pq_out c 0 j (by omega)]; rfl)
  obtain ⟨T2, d1, d2⟩ := x_sums (c := c) hn (nI n) v.2.2 n FU T1 (by omega) (by show n < 8589934592; omega) (fun j hj => by
    rw [b2 j hj]
    by_cases h : j < n
    · rw [if_pos h]
    · rw [if_neg h, TS_step, TS_out c n (j + 1) (by omega), Nat.add_zero])
  refine ⟨T2, ?_, d2⟩
  have e1 : jmin (nI n) 15 = nI n := by
    unfold jmin
    rw [if_neg (show ¬ (15 : Int32) < nI n from nI_nlt (a := 15) (by omega) (by decide))]
  have e2 : jmax 0 (nI n) = nI n := by
    unfold jmax
    by_cases h : (0 : Int32) < nI n
    · rw [if_pos h]
    · rw [if_neg h]
      have : n = 0 := by
        rcases Nat.eq_zero_or_pos n with z | z
        · exact z
        · exact absurd (nI_lt (a := 0) z (by omega)) h
      rw [this]; rfl
  unfold f_X2_fill f_J7_fill_d0a16
  rw [bnd_e, e1, bnd_e, e2, bnd_e, show Int32.ofNat 17 = nI 17 from rfl, show (0 : Int32) = nI 0 from rfl, a1, bnd1_s, chk_nI (by decide) (by decide), nI_clamp (by decide), bnd_e, b1]
  unfold fc_X2_fill_102
  dsimp only
  rw [e1, bnd_e, bnd_e]
  exact d1
end XL
