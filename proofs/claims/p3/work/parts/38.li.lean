section LI
theorem sh_pow : ∀ k : Nat, k < 63 → jlshl 1 (nI k) = lN (2 ^ k) := by decide +kernel
theorem lN_ltI {a b : Nat} (ha : a < 2 ^ 63) (hb : b < 2 ^ 63) : lN a < lN b ↔ a < b := by
  rw [Int64.lt_iff_toInt_lt]
  have e : ∀ n : Nat, n < 2 ^ 63 → (lN n).toInt = (n : Int) := fun n hn => by
    show (Int64.ofNat n).toInt = _
    exact Int64.toInt_ofNat_of_lt hn
  rw [e a ha, e b hb]
  omega
theorem lN_eqI {a b : Nat} (ha : a < 2 ^ 63) (hb : b < 2 ^ 63) : lN a = lN b ↔ a = b := by
  constructor
  · intro h
    rcases Nat.lt_trichotomy a b with z | z | z
    · exact absurd h (fun q => by have := (lN_ltI ha hb).mpr z; rw [q] at this; exact Int64.lt_irrefl this)
    · exact z
    · exact absurd h (fun q => by have := (lN_ltI hb ha).mpr z; rw [q] at this; exact Int64.lt_irrefl this)
  · intro h; rw [h]
theorem TS_lt : ∀ c, c < 16 → ∀ n, n < 16 → ∀ j, j < 17 → TS c n j < 2 ^ 62 := by decide +kernel
theorem TS_pos : ∀ c, c < 16 → 8 ≤ c → ∀ n, n < 16 → ∀ j, j ≤ n → 0 < TS c n j := by decide +kernel
theorem TS_mono : ∀ c, c < 16 → ∀ n, n < 16 → ∀ j, j < 16 → TS c n (j + 1) ≤ TS c n j := by decide +kernel
/-- the reference's own state, where only CHANCE, LOG and WINDOW stand -/
def mv (c lg : Nat) : V12 := (0, (fun k => if k = 0 then nI c else if k = 1 then nI lg else 0), (fun _ => 0), (fun _ => 0), 0, 0, 0, 0, 0, 0, 0, 0, 0, (fun _ => 0), 0, 0, 0, 0, 0, 0, 0, (fun _ => 0))
theorem rare_dep {u v : V12} (h : u.2.1 1 = v.2.1 1) (x : Int64) (y : Int32) : f_X12_isRare u x y = f_X12_isRare v x y := by
  unfold f_X12_isRare
  rw [show ((1 : Int32)).toNatClampNeg = 1 from rfl, h]
theorem rep_dep {u v : V12} (h0 : u.2.1 0 = v.2.1 0) (h1 : u.2.1 1 = v.2.1 1) : ∀ (fu : Nat) (x : Int32), fb_X12_repeats_2 u fu x = fb_X12_repeats_2 v fu x
  | 0, _ => rfl
  | fu + 1, x => by
    have ih := rep_dep h0 h1 fu
    unfold fb_X12_repeats_2 fl_X12_repeats_2
    rw [show ((0 : Int32)).toNatClampNeg = 0 from rfl, h0]
    simp only [rare_dep h1, ih]
theorem rep_ev : ∀ c, c < 16 → 8 ≤ c → ∀ lg, lg < 41 → 1 ≤ lg → f_X12_repeats (mv c lg) = some (nI (lmR c lg)) := by decide +kernel
theorem x_rep : ∀ c, c < 16 → 8 ≤ c → ∀ lg, lg < 41 → 1 ≤ lg → f_X2_leastRepeats (nI c) (nI lg) = some (nI (lmR c lg)) := by decide +kernel
theorem m_rep {v : V12} {c lg : Nat} (h0 : v.2.1 0 = nI c) (h1 : v.2.1 1 = nI lg) (c1 : 8 ≤ c) (c2 : c ≤ 15) (l1 : 1 ≤ lg) (l2 : lg ≤ 40) : f_X12_repeats v = some (nI (lmR c lg)) := by
  rw [← rep_ev c (by omega) c1 lg (by omega) l1]
  exact rep_dep (v := mv c lg) h0 h1 FU 2
theorem tail_dep {u v : V12} (h0 : u.2.1 0 = v.2.1 0) : ∀ (fu : Nat) (x : Int32) (y : Int64) (z : Int32), fb_X12_tail_5 u fu x y z = fb_X12_tail_5 v fu x y z
  | 0, _, _, _ => rfl
  | fu + 1, x, y, z => by
    have ih := tail_dep h0 fu
    unfold fb_X12_tail_5 fl_X12_tail_5
    rw [show ((0 : Int32)).toNatClampNeg = 0 from rfl, h0]
    simp only [ih]
theorem tail_ev : ∀ c, c < 16 → 8 ≤ c → ∀ n, n < 16 → ∀ j, j < 17 → f_X12_tail (mv c 0) (nI n) (nI j) = some (lN (TS c n j)) := by decide +kernel
theorem m_tail {v : V12} {c n j : Nat} (h0 : v.2.1 0 = nI c) (c1 : 8 ≤ c) (c2 : c ≤ 15) (hn : n < 16) (hj : j < 17) : f_X12_tail v (nI n) (nI j) = some (lN (TS c n j)) := by
  rw [← tail_ev c (by omega) c1 n hn j hj]
  exact tail_dep (v := mv c 0) h0 FU _ _ _
def HV (n j : Nat) : Nat := TS 8 n j / 8 ^ n
theorem halves_ev : ∀ n, n < 16 → ∀ j, j < 17 → f_X12_halves (nI n) (nI j) = some (lN (HV n j)) := by decide +kernel
theorem HV_eq : ∀ n, n < 16 → ∀ j, j < 17 → TS 8 n j = 8 ^ n * HV n j := by decide +kernel
end LI
