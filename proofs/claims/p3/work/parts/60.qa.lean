section QA
/-- the reference keeps its cells, its text and its images -/
def SM (v v2 : V12) : Prop := v2.2.1 = v.2.1 ∧ v2.2.2.1 = v.2.2.1 ∧ v2.2.2.2.1 = v.2.2.2.1
theorem q_fault {v0 : V11} {v : V12} (hT : RT v0.1.2.2.2.2.2.2.2.1 v.2.1 v.2.2.1) (p : Int32) : ∃ r : Int32, f_X11_fault v0 p = some r ∧ f_X12_fault v p = some (r, (0, v.2)) := by
  obtain ⟨n, h1, h2, h3, h4, h5, h6⟩ := hT
  unfold f_X11_fault f_X12_fault
  by_cases hp : p = 0
  · refine ⟨_, if_pos hp, ?_⟩
    rw [if_pos hp, chk_in (show vp_in (943 : Int32) 4725 by unfold vp_in; decide), show ((943 : Int32)).toNatClampNeg = 943 from rfl, h4]
  · refine ⟨_, if_neg hp, ?_⟩
    rw [if_neg hp, chk_in (show vp_in (944 : Int32) 4725 by unfold vp_in; decide), show ((944 : Int32)).toNatClampNeg = 944 from rfl, h5]
theorem m1_lt {j : Nat} (hj : j < 2 ^ 31) : nI 0 - 1 < nI j := by
  rw [Int32.lt_iff_toInt_lt, nI_toInt hj, show (nI 0 - 1).toInt = -1 from by decide]
  omega
/-- below n or not -/
theorem in0 (p : Int32) {n : Nat} (hn : n < 2 ^ 31) : (∃ k : Nat, k < n ∧ p = nI k ∧ f_X12_in p 0 (nI n - 1) = some 1) ∨ ((p < 0 ∨ ∃ k : Nat, n ≤ k ∧ k < 2 ^ 31 ∧ p = nI k) ∧ f_X12_in p 0 (nI n - 1) = some 0) := by
  unfold f_X12_in
  by_cases h0 : p < 0
  · exact Or.inr ⟨Or.inl h0, if_pos h0⟩
  · rw [if_neg h0]
    obtain ⟨j, hj, e⟩ := nI_of h0
    rw [e]
    by_cases h : j < n
    · refine Or.inl ⟨j, h, rfl, ?_⟩
      rw [show nI n - 1 = nI (n - 1) from pk_sub (b := 1) (by omega), if_neg (nI_nlt (by omega) (by omega))]
    · refine Or.inr ⟨Or.inr ⟨j, by omega, hj, rfl⟩, ?_⟩
      by_cases h1 : n = 0
      · rw [h1, if_pos (m1_lt hj)]
      · rw [show nI n - 1 = nI (n - 1) from pk_sub (b := 1) (by omega), if_pos (nI_lt (by omega) hj)]
theorem q_bit {a o mx : Nat} {q : V4} {F : Nat → Int32} (hQ : RQ a o mx q F) (hm : mx ≤ 512) (p : Int32) : ∃ r : Int32, f_X4_bitAt q p = some r ∧ ((∃ k : Nat, k < mx ∧ p = nI k ∧ r = F (o + k) ∧ f_X12_in p 0 (F a - 1) = some 1) ∨ (r = -1 ∧ f_X12_in p 0 (F a - 1) = some 0)) := by
  obtain ⟨n, h, h1, h2, h3, h4, h5, h6⟩ := hQ
  unfold f_X4_bitAt
  rw [h3, h4, h5]
  rcases in0 p (n := n) (by omega) with ⟨k, k1, k2, k3⟩ | ⟨k1, k2⟩
  · refine ⟨F (o + k), ?_, Or.inl ⟨k, by omega, k2, rfl, k3⟩⟩
    rw [k2, if_neg (nI_pos (by omega)), if_pos (nI_lt k1 (by omega)), nI_add, and511 (by omega), chk_nI (Nat.mod_lt _ (by decide)) (by decide), nI_clamp (by omega), (h6 k k1).1]
  · refine ⟨-1, ?_, Or.inr ⟨rfl, k2⟩⟩
    rcases k1 with k1 | ⟨k, k3, k4, k5⟩
    · rw [if_pos k1]
    · rw [k5, if_neg (nI_pos k4), if_neg (nI_nlt k3 k4)]
theorem q_history {v0 : V11} {v : V12} (hQ : RQ 300 301 400 v0.1.2.2.2.2.2.1 v.2.1) (p : Int32) : ∃ r : Int32, f_X11_history v0 p = some r ∧ f_X12_history v p = some (r, (0, v.2)) := by
  obtain ⟨r, r1, r2⟩ := q_bit hQ (by decide) p
  refine ⟨r, by unfold f_X11_history; rw [r1, bnd1_s], ?_⟩
  unfold f_X12_history
  rw [chk_in (show vp_in (300 : Int32) 4725 by unfold vp_in; decide), show ((300 : Int32)).toNatClampNeg = 300 from rfl]
  rcases r2 with ⟨k, k1, k2, k3, k4⟩ | ⟨k1, k2⟩
  · rw [k4, bnd1_s, if_neg (by decide), k2, show (301 : Int32) + nI k = nI (301 + k) from nI_add 301 k, chk_nI (by omega) (by decide), nI_clamp (by omega), k3]
  · rw [k2, bnd1_s, if_pos rfl, k1]
theorem q_pool {v0 : V11} {v : V12} (hQ : RQ 43 44 256 v0.1.2.2.2.2.1.1 v.2.1) (p : Int32) : ∃ r : Int32, f_X11_pool v0 p = some r ∧ f_X12_pool v p = some (r, (0, v.2)) := by
  obtain ⟨r, r1, r2⟩ := q_bit hQ (by decide) p
  refine ⟨r, by unfold f_X11_pool; rw [r1, bnd1_s], ?_⟩
  unfold f_X12_pool
  rw [chk_in (show vp_in (43 : Int32) 4725 by unfold vp_in; decide), show ((43 : Int32)).toNatClampNeg = 43 from rfl]
  rcases r2 with ⟨k, k1, k2, k3, k4⟩ | ⟨k1, k2⟩
  · rw [k4, bnd1_s, if_neg (by decide), k2, show (44 : Int32) + nI k = nI (44 + k) from nI_add 44 k, chk_nI (by omega) (by decide), nI_clamp (by omega), k3]
  · rw [k2, bnd1_s, if_pos rfl, k1]
theorem m_rowAt {v : V12} {i k : Nat} (hi : i < 15) (hk : k < 16) : f_X12_rowAt v (nI i) (nI k) = some (v.2.1 (702 + 16 * i + k)) := by
  unfold f_X12_rowAt
  rw [show (16 : Int32) * nI i = nI (16 * i) from pk_mul 16 i, show (702 : Int32) + nI (16 * i) = nI (702 + 16 * i) from nI_add 702 _, nI_add, chk_nI (by omega) (by decide), nI_clamp (by omega)]
theorem ushr_nI : ∀ k, k < 15 → ∀ S, S < 2 ^ 31 → (jushr (nI S) (nI k)) &&& (1 : Int32) = nI (S / 2 ^ k % 2) := by
  intro k hk S hS
  have e : jushr (nI S) (nI k) = nI (S / 2 ^ k) := pk_ushrN (by omega) (nI k) k (by
    have : ∀ k, k < 32 → (((nI k).toUInt32 &&& Int32.toUInt32 31).toBitVec % 32).toNat = k := by decide +kernel
    exact this k (by omega))
  have h2 : S / 2 ^ k ≤ S := Nat.div_le_self _ _
  rw [e]
  exact pk_andN (by omega) 1 (by decide)
theorem q_row {v0 : V11} {v : V12} (hR : RR v0.1.2.2.2.2.2.2.1 v.2.1) (p1 p2 p3 : Int32) : ∃ r : Int32, f_X11_row v0 p1 p2 p3 = some r ∧ f_X12_row v p1 p2 p3 = some (r, (0, v.2)) := by
  obtain ⟨n, h1, h2, h3, h4⟩ := hR
  unfold f_X11_row f_X12_row f_X6_sampleOf f_X6_lengthOf f_X6_has
  rw [chk_in (show vp_in (701 : Int32) 4725 by unfold vp_in; decide), show ((701 : Int32)).toNatClampNeg = 701 from rfl, h2, h3]
  rcases in0 p1 (n := n) (by omega) with ⟨i, i1, i2, i3⟩ | ⟨i1, i2⟩
  · obtain ⟨len, S, l1, l2, l3, l4, l5, l6⟩ := h4 i i1
    have hpw : 2 ^ len ≤ 2 ^ 15 := Nat.pow_le_pow_right (by decide) l1
    rw [i3, bnd1_s, if_neg (show ¬ (1 : Int32) = 0 by decide), i2, if_neg (nI_pos (by omega)), if_neg (nI_ge i1 (by omega)), if_neg (show ¬ (15 : Int32) ≤ nI i from nI_ge (b := 15) (by omega) (by decide)), bnd1_s, if_neg (show ¬ (1 : Int32) = 0 by decide), bnd1_s, if_neg (show ¬ (1 : Int32) = 0 by decide), chk_nI (by omega) (by decide), chk_nI (by omega) (by decide), chk_nI (by omega) (by decide), nI_clamp (by omega), l3, l5, show f_X12_rowAt ((0 : Int32), v.2) (nI i) (0 : Int32) = some (v.2.1 (702 + 16 * i + 0)) from m_rowAt (by omega) (by decide), bnd1_s, bnd1_s, Nat.add_zero, l4, bnd1_s]
    by_cases hp : p3 = 0
    · rw [if_pos hp, if_pos hp]
      rcases in0 p2 (n := len) (by omega) with ⟨k, k1, k2, k3⟩ | ⟨k1, k2⟩
      · refine ⟨nI (S / 2 ^ k % 2), ?_, ?_⟩
        · rw [k2, if_neg (nI_pos (by omega)), if_neg (nI_ge k1 (by omega)), bnd1_s, ushr_nI k (by omega) S (by omega)]
        · rw [k3, bnd1_s, if_neg (by decide), k2, show (1 : Int32) + nI k = nI (1 + k) from nI_add 1 k, m_rowAt (by omega) (by omega), bnd1_s, ← l6 k k1, show 702 + 16 * i + (1 + k) = 703 + 16 * i + k by omega]
      · refine ⟨-1, ?_, by rw [k2, bnd1_s, if_pos rfl]⟩
        rcases k1 with k1 | ⟨k, k3, k4, k5⟩
        · rw [if_pos k1, bnd1_s]
        · rw [k5, if_neg (nI_pos k4), if_pos (nI_le k3 k4), bnd1_s]
    · rw [if_neg hp, if_neg hp]
      exact ⟨_, rfl, rfl⟩
  · have hno : (if p1 < 0 then some 0 else if nI n ≤ p1 then some 0 else if (15 : Int32) ≤ p1 then some 0 else some 1 : Option Int32) = some 0 := by
      rcases i1 with i1 | ⟨k, k3, k4, k5⟩
      · rw [if_pos i1]
      · rw [k5, if_neg (nI_pos k4), if_pos (nI_le k3 k4)]
    refine ⟨-1, ?_, by rw [i2, bnd1_s, if_pos rfl]⟩
    rw [hno, bnd1_s, bnd1_s, if_pos rfl, if_pos rfl, bnd1_s]
    by_cases hp : p3 = 0
    · rw [if_pos hp]
    · rw [if_neg hp]
theorem x_count (w : V10) (p : Int32) : ∃ r : Int32, f_X10_countOf w p = some r := by
  unfold f_X10_countOf fc_X10_countOf_19 f_X10_countOfParts f_X7_valueOf
  by_cases h0 : p < 0
  · rw [if_pos h0]
    obtain ⟨h8, h16⟩ : p < 8 ∧ p < 16 := by
      rw [Int32.lt_iff_toInt_lt] at h0 ⊢
      rw [Int32.lt_iff_toInt_lt]
      rw [show (0 : Int32).toInt = 0 from rfl] at h0
      rw [show (8 : Int32).toInt = 8 from rfl, show (16 : Int32).toInt = 16 from rfl]
      omega
    rw [if_pos h16, if_pos (Or.inl h8)]
    exact ⟨_, rfl⟩
  · obtain ⟨j, hj, e⟩ := nI_of h0
    subst e
    by_cases h29 : j < 29
    · have : ∀ j, j < 29 → j = 0 ∨ j = 1 ∨ j = 2 ∨ j = 3 ∨ j = 4 ∨ j = 5 ∨ j = 6 ∨ j = 7 ∨ j = 8 ∨ j = 9 ∨ j = 10 ∨ j = 11 ∨ j = 12 ∨ j = 13 ∨ j = 14 ∨ j = 15 ∨ j = 16 ∨ j = 17 ∨ j = 18 ∨ j = 19 ∨ j = 20 ∨ j = 21 ∨ j = 22 ∨ j = 23 ∨ j = 24 ∨ j = 25 ∨ j = 26 ∨ j = 27 ∨ j = 28 := by omega
      rcases this j h29 with h | h | h | h | h | h | h | h | h | h | h | h | h | h | h | h | h | h | h | h | h | h | h | h | h | h | h | h | h <;> subst h <;> exact ⟨_, rfl⟩
    · rw [if_neg h0, if_pos (show (7 : Int32) < nI j from nI_lt (a := 7) (by omega) hj), if_neg (show ¬ nI j < (16 : Int32) from nI_nlt (b := 16) (by omega) hj), if_pos (Or.inr (show (28 : Int32) < nI j from nI_lt (a := 28) (by omega) hj))]
      exact ⟨_, rfl⟩
theorem q_count (v0 : V11) (v : V12) (p : Int32) : ∃ r r2 : Int32, f_X11_count v0 p = some r ∧ f_X12_count v p = some (r2, (0, v.2)) := by
  obtain ⟨r, hr⟩ := x_count v0.1 p
  have hm : ∃ r2 : Int32, f_X12_count v p = some (r2, (0, v.2)) := by
    unfold f_X12_count
    rw [show f_X12_in p 0 28 = f_X12_in p 0 (nI 29 - 1) from rfl]
    rcases in0 p (n := 29) (by decide) with ⟨k, k1, k2, k3⟩ | ⟨k1, k2⟩
    · rw [k3, bnd1_s, if_neg (by decide), k2]
      have hq : ∃ r2 : Int32, f_X12_counted ((0 : Int32), v.2) (nI k) = some r2 := by
        have : ∀ j, j < 29 → j = 0 ∨ j = 1 ∨ j = 2 ∨ j = 3 ∨ j = 4 ∨ j = 5 ∨ j = 6 ∨ j = 7 ∨ j = 8 ∨ j = 9 ∨ j = 10 ∨ j = 11 ∨ j = 12 ∨ j = 13 ∨ j = 14 ∨ j = 15 ∨ j = 16 ∨ j = 17 ∨ j = 18 ∨ j = 19 ∨ j = 20 ∨ j = 21 ∨ j = 22 ∨ j = 23 ∨ j = 24 ∨ j = 25 ∨ j = 26 ∨ j = 27 ∨ j = 28 := by omega
        rcases this k k1 with h | h | h | h | h | h | h | h | h | h | h | h | h | h | h | h | h | h | h | h | h | h | h | h | h | h | h | h | h <;> subst h <;> exact ⟨_, rfl⟩
      obtain ⟨r2, e⟩ := hq
      exact ⟨r2, by rw [e, bnd1_s]⟩
    · exact ⟨-1, by rw [k2, bnd1_s, if_pos rfl]⟩
  obtain ⟨r2, h2⟩ := hm
  exact ⟨r, r2, by unfold f_X11_count; rw [hr, bnd1_s], h2⟩
end QA
