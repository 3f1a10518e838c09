section LM
theorem rare_nI {v : V12} {lg t b : Nat} (h1 : v.2.1 1 = nI lg) (hl : lg ≤ 40) (ht : t < 2 ^ 62) (hb : b ≤ 60) : f_X12_isRare v (lN t) (nI b) = some (if rareb t b lg = true then 1 else 0) := by
  unfold f_X12_isRare rareb
  rw [show ((1 : Int32)).toNatClampNeg = 1 from rfl, h1, chk_in (by unfold vp_in; decide), bnd_e]
  by_cases hlb : lg ≤ b
  · rw [pk_sub hlb, if_neg (nI_pos (by omega)), sh_pow _ (by omega), if_pos hlb]
    have hp : 2 ^ (b - lg) ≤ 2 ^ 60 := Nat.pow_le_pow_right (by decide) (by omega)
    by_cases h : t ≤ 2 ^ (b - lg)
    · rw [if_neg (by rw [lN_ltI (by omega) (by omega)]; omega), if_pos (decide_eq_true h)]
    · rw [if_pos (by rw [lN_ltI (by omega) (by omega)]; omega), if_neg (by rw [decide_eq_true_eq]; exact h)]
  · rw [if_pos (pk_sneg (by omega) (by omega)), if_neg hlb]
    by_cases h : t = 0
    · rw [if_pos (by rw [h]; rfl), if_pos (decide_eq_true h)]
    · rw [if_neg (show ¬ lN t = 0 by show ¬ lN t = lN 0; rw [lN_eqI (by omega) (by decide)]; exact h), if_neg (by rw [decide_eq_true_eq]; exact h)]
theorem m_prop_loop {v : V12} {c lg W : Nat} (h0 : v.2.1 0 = nI c) (h1 : v.2.1 1 = nI lg) (h2 : v.2.1 2 = nI W) (c1 : 8 ≤ c) (c2 : c ≤ 15) (l2 : lg ≤ 40) (w1 : 4 ≤ W) (w2 : W ≤ 15) : ∀ (d fu k : Nat), k + d = W + 1 → 2 ≤ k → d < fu → fb_X12_proportion_11 v fu (nI (W - 1)) (nI k) = some (nI (fstk (fun k => rareb (TS c (W - 1) (k - 1)) (4 * (W - 1)) lg) (W + 1) k d)) := by
  intro d
  induction d with
  | zero =>
    intro fu k hk h2k hf
    obtain ⟨fu, rfl⟩ : ∃ m, fu = m + 1 := ⟨fu - 1, by omega⟩
    unfold fb_X12_proportion_11 fl_X12_proportion_11
    rw [show ((2 : Int32)).toNatClampNeg = 2 from rfl, h2, chk_in (by unfold vp_in; decide), chk_in (by unfold vp_in; decide), if_pos (nI_lt (by omega) (by omega)), nI_1]
    rfl
  | succ d ih =>
    intro fu k hk h2k hf
    obtain ⟨fu, rfl⟩ : ∃ m, fu = m + 1 := ⟨fu - 1, by omega⟩
    have ih := ih fu (k + 1) (by omega) (by omega) (by omega)
    unfold fb_X12_proportion_11 fl_X12_proportion_11
    rw [show ((2 : Int32)).toNatClampNeg = 2 from rfl, h2, chk_in (by unfold vp_in; decide), if_neg (nI_nlt (by omega) (by omega)), show nI k - 1 = nI (k - 1) from pk_sub (b := 1) (by omega), m_tail h0 c1 c2 (by omega) (by omega), bnd1_s, show (4 : Int32) * nI (W - 1) = nI (4 * (W - 1)) from pk_mul 4 _, rare_nI h1 l2 (TS_lt c (by omega) _ (by omega) _ (by omega)) (by omega), bnd1_s]
    unfold fstk
    by_cases hr : rareb (TS c (W - 1) (k - 1)) (4 * (W - 1)) lg = true
    · rw [if_pos hr, if_neg (by decide), if_pos hr]
    · rw [if_neg hr, if_pos rfl, if_neg hr, bnd_e, nI_1]
      exact ih
theorem m_prop {v : V12} {c lg W : Nat} (h0 : v.2.1 0 = nI c) (h1 : v.2.1 1 = nI lg) (h2 : v.2.1 2 = nI W) (c1 : 8 ≤ c) (c2 : c ≤ 15) (l2 : lg ≤ 40) (w1 : 4 ≤ W) (w2 : W ≤ 15) : f_X12_proportion v = some (nI (lmP c lg W)) := by
  unfold f_X12_proportion
  rw [show ((2 : Int32)).toNatClampNeg = 2 from rfl, h2, chk_in (by unfold vp_in; decide), bnd_e, show nI W - 1 = nI (W - 1) from pk_sub (b := 1) (by omega)]
  exact m_prop_loop h0 h1 h2 c1 c2 l2 w1 w2 (W - 1) FU 2 (by omega) (by omega) (by show W - 1 < 8589934592; omega)
theorem m_rows_loop {v : V12} {c lg n : Nat} (h0 : v.2.1 0 = nI c) (h1 : v.2.1 1 = nI lg) (c1 : 8 ≤ c) (c2 : c ≤ 15) (l2 : lg ≤ 40) (hn : n ≤ 15) : ∀ (d fu k : Nat), k + d = n + 1 → 1 ≤ k → d < fu → fb_X12_rowsLimit_2 v fu (nI n) (nI k) = some (nI (fstk (fun k => rareb (TS c n k) (4 * n) lg) (n + 1) k d)) := by
  intro d
  induction d with
  | zero =>
    intro fu k hk h2k hf
    obtain ⟨fu, rfl⟩ : ∃ m, fu = m + 1 := ⟨fu - 1, by omega⟩
    unfold fb_X12_rowsLimit_2 fl_X12_rowsLimit_2
    rw [if_pos (nI_lt (by omega) (by omega)), nI_1]
    rfl
  | succ d ih =>
    intro fu k hk h2k hf
    obtain ⟨fu, rfl⟩ : ∃ m, fu = m + 1 := ⟨fu - 1, by omega⟩
    have ih := ih fu (k + 1) (by omega) (by omega) (by omega)
    unfold fb_X12_rowsLimit_2 fl_X12_rowsLimit_2
    rw [if_neg (nI_nlt (by omega) (by omega)), m_tail h0 c1 c2 (by omega) (by omega), bnd1_s, show (4 : Int32) * nI n = nI (4 * n) from pk_mul 4 _, rare_nI h1 l2 (TS_lt c (by omega) _ (by omega) _ (by omega)) (by omega), bnd1_s]
    unfold fstk
    by_cases hr : rareb (TS c n k) (4 * n) lg = true
    · rw [if_pos hr, if_neg (by decide), if_pos hr]
    · rw [if_neg hr, if_pos rfl, if_neg hr, bnd_e, nI_1]
      exact ih
/-- ROWS of n -/
def lmW (c lg n : Nat) : Nat := fstk (fun k => rareb (TS c n k) (4 * n) lg) (n + 1) 1 n
theorem m_rows {v : V12} {c lg n : Nat} (h0 : v.2.1 0 = nI c) (h1 : v.2.1 1 = nI lg) (c1 : 8 ≤ c) (c2 : c ≤ 15) (l2 : lg ≤ 40) (hn : n ≤ 15) : f_X12_rowsLimit v (nI n) = some (nI (lmW c lg n)) := by
  unfold f_X12_rowsLimit
  exact m_rows_loop h0 h1 c1 c2 l2 hn n FU 1 (by omega) (by omega) (by show n < 8589934592; omega)
theorem rare8 {n h lg : Nat} (hh : 0 < h) : rareb (8 ^ n * h) (4 * n) lg = rareb h n lg := by
  unfold rareb
  have e8 : 8 ^ n = 2 ^ (3 * n) := by rw [Nat.pow_mul]
  have p8 : 0 < 8 ^ n := Nat.pow_pos (by decide)
  by_cases h1 : lg ≤ n
  · rw [if_pos h1, if_pos (by omega)]
    have e : 2 ^ (4 * n - lg) = 8 ^ n * 2 ^ (n - lg) := by rw [e8, ← Nat.pow_add]; congr 1; omega
    rw [e]
    exact decide_eq_decide.mpr ⟨fun q => Nat.le_of_mul_le_mul_left q p8, fun q => Nat.mul_le_mul_left _ q⟩
  · rw [if_neg h1]
    have f2 : decide (h = 0) = false := decide_eq_false (by omega)
    rw [f2]
    by_cases h2 : lg ≤ 4 * n
    · rw [if_pos h2]
      apply decide_eq_false
      have : 2 ^ (4 * n - lg) < 2 ^ (3 * n) := Nat.pow_lt_pow_right (by decide) (by omega)
      rw [← e8] at this
      have : 8 ^ n * 1 ≤ 8 ^ n * h := Nat.mul_le_mul_left _ hh
      omega
    · rw [if_neg h2]
      apply decide_eq_false
      have : 8 ^ n * 1 ≤ 8 ^ n * h := Nat.mul_le_mul_left _ hh
      omega
theorem HV_pos {n j : Nat} (hn : n < 16) (hj : j ≤ n) : 0 < HV n j := by
  have h1 := TS_pos 8 (by decide) (by decide) n hn j hj
  rw [HV_eq n hn j (by omega)] at h1
  exact Nat.pos_of_mul_pos_left h1
theorem HV_lt {n j : Nat} (hn : n < 16) (hj : j < 17) : HV n j < 2 ^ 62 := Nat.lt_of_le_of_lt (Nat.div_le_self _ _) (TS_lt 8 (by decide) n hn j hj)
theorem m_chg_loop {v : V12} {lg W : Nat} (h1 : v.2.1 1 = nI lg) (h2 : v.2.1 2 = nI W) (l2 : lg ≤ 40) (w1 : 4 ≤ W) (w2 : W ≤ 15) : ∀ (d fu k : Nat), k + d = W → 1 ≤ k → d < fu → fb_X12_changes_11 v fu (nI (W - 1)) (nI k) = some (nI (fstk (fun k => rareb (TS 8 (W - 1) k) (4 * (W - 1)) lg) W k d)) := by
  intro d
  induction d with
  | zero =>
    intro fu k hk h2k hf
    obtain ⟨fu, rfl⟩ : ∃ m, fu = m + 1 := ⟨fu - 1, by omega⟩
    unfold fb_X12_changes_11 fl_X12_changes_11
    rw [show ((2 : Int32)).toNatClampNeg = 2 from rfl, h2, if_pos (nI_lt (by omega) (by omega)), chk_in (by unfold vp_in; decide)]
    rfl
  | succ d ih =>
    intro fu k hk h2k hf
    obtain ⟨fu, rfl⟩ : ∃ m, fu = m + 1 := ⟨fu - 1, by omega⟩
    have ih := ih fu (k + 1) (by omega) (by omega) (by omega)
    unfold fb_X12_changes_11 fl_X12_changes_11
    rw [if_neg (nI_nlt (by omega) (by omega)), halves_ev _ (by omega) _ (by omega), bnd1_s, rare_nI h1 l2 (HV_lt (by omega) (by omega)) (by omega), bnd1_s, ← rare8 (HV_pos (by omega) (by omega)), ← HV_eq _ (by omega) _ (by omega)]
    unfold fstk
    by_cases hr : rareb (TS 8 (W - 1) k) (4 * (W - 1)) lg = true
    · rw [if_pos hr, if_neg (by decide), if_pos hr]
    · rw [if_neg hr, if_pos rfl, if_neg hr, bnd_e, nI_1]
      exact ih
theorem m_chg {v : V12} {lg W : Nat} (h1 : v.2.1 1 = nI lg) (h2 : v.2.1 2 = nI W) (l2 : lg ≤ 40) (w1 : 4 ≤ W) (w2 : W ≤ 15) : f_X12_changes v = some (nI (lmC lg W)) := by
  unfold f_X12_changes
  rw [show ((2 : Int32)).toNatClampNeg = 2 from rfl, h2, chk_in (by unfold vp_in; decide), bnd_e, show nI W - 1 = nI (W - 1) from pk_sub (b := 1) (by omega)]
  exact m_chg_loop h1 h2 l2 w1 w2 (W - 1) FU 1 (by omega) (by omega) (by show W - 1 < 8589934592; omega)
/-- YIELD -/
def yv (c BL o : Nat) : Nat := min o (BL * (9 * (16 - c)) / 100)
theorem x_yield {s : V7} {c lg W BL o : Nat} (h : SV s.1 c lg W BL o) : f_X7_yielded s = some (nI (yv c BL o)) := by
  obtain ⟨g0, g1, g2, g3, g4, g5, g6, g7, g8, g9, g10, g11, g12, g13, g14⟩ := h
  unfold f_X7_yielded f_X7_earned
  rw [show (5 : Int32) = nI 5 from rfl, show (4 : Int32) = nI 4 from rfl, show (0 : Int32) = nI 0 from rfl, val_nI s (by decide), val_nI s (by decide), val_nI s (by decide), bnd1_s, bnd1_s, bnd1_s, bnd1_s, g0, g9, g12]
  rw [show (16 : Int32) - nI c = nI (16 - c) from pk_sub (a := 16) (by omega), show (9 : Int32) * nI (16 - c) = nI (9 * (16 - c)) from pk_mul 9 _, pk_mul]
  have hb : BL * (9 * (16 - c)) ≤ 64 * (9 * 8) := Nat.mul_le_mul g11 (Nat.mul_le_mul_left _ (by omega))
  rw [show nI (BL * (9 * (16 - c))) / (100 : Int32) = nI (BL * (9 * (16 - c)) / 100) from pk_div (d := 100) (by omega) (by decide) (by decide)]
  unfold chknz jmin
  have hd : BL * (9 * (16 - c)) / 100 ≤ BL * (9 * (16 - c)) := Nat.div_le_self _ _
  rw [if_neg (by decide), bnd_e]
  unfold yv
  by_cases h : BL * (9 * (16 - c)) / 100 < o
  · rw [if_pos (nI_lt h (by omega)), Nat.min_eq_right (by omega)]
  · rw [if_neg (nI_nlt (by omega) (by omega)), Nat.min_eq_left (by omega)]
theorem m_yield {v : V12} {c BL o : Nat} (h0 : v.2.1 0 = nI c) (h4 : v.2.1 4 = nI BL) (h5 : v.2.1 5 = nI o) (c2 : c ≤ 15) (c1 : 8 ≤ c) (b2 : BL ≤ 64) (o2 : o ≤ 16) : f_X12_yields v = some (nI (yv c BL o)) := by
  unfold f_X12_yields f_X12_earned f_X12_lesser
  rw [show ((0 : Int32)).toNatClampNeg = 0 from rfl, show ((4 : Int32)).toNatClampNeg = 4 from rfl, show ((5 : Int32)).toNatClampNeg = 5 from rfl, h0, h4, h5, chk_in (by unfold vp_in; decide), chk_in (by unfold vp_in; decide), chk_in (by unfold vp_in; decide), bnd1_s]
  rw [show (16 : Int32) - nI c = nI (16 - c) from pk_sub (a := 16) (by omega), show (9 : Int32) * nI (16 - c) = nI (9 * (16 - c)) from pk_mul 9 _, pk_mul]
  have hb : BL * (9 * (16 - c)) ≤ 64 * (9 * 8) := Nat.mul_le_mul b2 (Nat.mul_le_mul_left _ (by omega))
  rw [show nI (BL * (9 * (16 - c))) / (100 : Int32) = nI (BL * (9 * (16 - c)) / 100) from pk_div (d := 100) (by omega) (by decide) (by decide)]
  unfold chknz
  have hd : BL * (9 * (16 - c)) / 100 ≤ BL * (9 * (16 - c)) := Nat.div_le_self _ _
  rw [if_neg (by decide)]
  unfold yv
  by_cases h : BL * (9 * (16 - c)) / 100 ≤ o
  · rw [if_pos (nI_le h (by omega)), bnd1_s, Nat.min_eq_right h]
  · rw [if_neg (nI_ge (by omega) (by omega)), bnd1_s, Nat.min_eq_left (by omega)]
theorem yv_le {c BL o : Nat} (ho : o ≤ 16) : yv c BL o ≤ 31 := by unfold yv; omega
/-- the limits are laid -/
theorem lays_rel {B : Nat} {w : V10} {v : V12} (hR : R B w v.2.1) : ∃ l1 l2 l3 l4 : Int32, f_X12_laysLimits v = some (v.1, v.2.1, v.2.2.1, v.2.2.2.1, v.2.2.2.2.1, v.2.2.2.2.2.1, v.2.2.2.2.2.2.1, v.2.2.2.2.2.2.2.1, v.2.2.2.2.2.2.2.2.1, v.2.2.2.2.2.2.2.2.2.1, v.2.2.2.2.2.2.2.2.2.2.1, v.2.2.2.2.2.2.2.2.2.2.2.1, v.2.2.2.2.2.2.2.2.2.2.2.2.1, v.2.2.2.2.2.2.2.2.2.2.2.2.2.1, v.2.2.2.2.2.2.2.2.2.2.2.2.2.2.1, l1, l2, l3, l4, v.2.2.2.2.2.2.2.2.2.2.2.2.2.2.2.2.2.2.2) ∧ LimM (v.1, v.2.1, v.2.2.1, v.2.2.2.1, v.2.2.2.2.1, v.2.2.2.2.2.1, v.2.2.2.2.2.2.1, v.2.2.2.2.2.2.2.1, v.2.2.2.2.2.2.2.2.1, v.2.2.2.2.2.2.2.2.2.1, v.2.2.2.2.2.2.2.2.2.2.1, v.2.2.2.2.2.2.2.2.2.2.2.1, v.2.2.2.2.2.2.2.2.2.2.2.2.1, v.2.2.2.2.2.2.2.2.2.2.2.2.2.1, v.2.2.2.2.2.2.2.2.2.2.2.2.2.2.1, l1, l2, l3, l4, v.2.2.2.2.2.2.2.2.2.2.2.2.2.2.2.2.2.2.2) w := by
  obtain ⟨c, lg, W, BL, o, hSV, hS, hLm, -⟩ := hR
  have hSV0 := hSV
  obtain ⟨g0, g1, g2, g3, g4, g5, g6, g7, g8, g9, g10, g11, g12, g13, g14⟩ := hSV
  have f0 : v.2.1 0 = nI c := by rw [hS.1 0 (by decide)]; exact g0
  have f1 : v.2.1 1 = nI lg := by rw [hS.1 1 (by decide)]; exact g3
  have f2 : v.2.1 2 = nI W := by rw [hS.1 2 (by decide)]; exact g6
  have f4 : v.2.1 4 = nI BL := by rw [hS.1 4 (by decide)]; exact g9
  have f5 : v.2.1 5 = nI o := by rw [hS.1 5 (by decide)]; exact g12
  refine ⟨nI (lmR c lg), nI (lmP c lg W), nI (lmC lg W), nI (yv c BL o), ?_, hLm.1.symm, hLm.2.1.symm, hLm.2.2.symm, yv c BL o, yv_le g14, x_yield hSV0, rfl⟩
  have hp : ∀ (a_1 : Int32) (b_1 : (Nat → Int32) × (Nat → Int32) × Int32 × Int32 × Int32 × Int32 × Int32 × Int64 × Int32 × Int32 × Int32 × (Nat → Int32) × Int32 × Int32 × Int32 × Int32 × Int32 × Int64 × Int64 × (Nat → Int32)), f_X12_proportion (a_1, v.2.1, b_1) = some (nI (lmP c lg W)) := fun a_1 b_1 => m_prop f0 f1 f2 g1 g2 g5 g7 g8
  have hc : ∀ (a_1 : Int32) (b_1 : (Nat → Int32) × (Nat → Int32) × Int32 × Int32 × Int32 × Int32 × Int32 × Int64 × Int32 × Int32 × Int32 × (Nat → Int32) × Int32 × Int32 × Int32 × Int32 × Int32 × Int64 × Int64 × (Nat → Int32)), f_X12_changes (a_1, v.2.1, b_1) = some (nI (lmC lg W)) := fun a_1 b_1 => m_chg f1 f2 g5 g7 g8
  have hy : ∀ (a_1 : Int32) (b_1 : (Nat → Int32) × (Nat → Int32) × Int32 × Int32 × Int32 × Int32 × Int32 × Int64 × Int32 × Int32 × Int32 × (Nat → Int32) × Int32 × Int32 × Int32 × Int32 × Int32 × Int64 × Int64 × (Nat → Int32)), f_X12_yields (a_1, v.2.1, b_1) = some (nI (yv c BL o)) := fun a_1 b_1 => m_yield f0 f4 f5 g2 g1 g11 g14
  unfold f_X12_laysLimits
  rw [m_rep f0 f1 g1 g2 g4 g5, bnd1_s, hp, bnd1_s, hc, bnd1_s, hy, bnd1_s]
end LM
