section FI
theorem m_first {ra : Int32} {al tx sv : Nat → Int32} {le bg so va : Int32} {wo : Int64} {wr : Int32} {rz : Int32 × Int32 × Int32 × Int32 × Int32 × Int64 × Int64 × (Nat → Int32)} : ∀ (d fu k : Nat) (re ba bd : Int32) (to : Nat → Int32), k + d = 22 → d < fu → (∀ j, j < k → to j = 0) → ∃ to2 : Nat → Int32, fb_X12_atFirst_2 fu (ra, al, tx, sv, re, le, bg, so, va, wo, wr, ba, bd, to, rz) (nI k) = some (ra, al, tx, sv, 0, le, bg, so, va, wo, wr, -1, 0, to2, rz) ∧ (∀ j, j < 9 → to2 j = stF j) ∧ ∀ j, 9 ≤ j → j < 22 → to2 j = 0 := by
  intro d
  induction d with
  | zero =>
    intro fu k re ba bd to hk hf h0
    obtain ⟨fu, rfl⟩ : ∃ m, fu = m + 1 := ⟨fu - 1, by omega⟩
    have hk : k = 22 := by omega
    subst hk
    refine ⟨upd (upd (upd (upd (upd (upd (upd (upd to 0 10) 1 20) 2 15) 3 32) 4 16) 5 4) 6 8) 8 1, ?_, fun j hj => ?_, fun j h1 h2 => ?_⟩
    · show fl_X12_atFirst_2 (fb_X12_atFirst_2 fu) _ _ = _
      unfold fl_X12_atFirst_2
      rw [if_pos (show (22 : Int32) ≤ nI 22 by decide)]
      rfl
    · match j, hj with
      | 0, _ => rfl
      | 1, _ => rfl
      | 2, _ => rfl
      | 3, _ => rfl
      | 4, _ => rfl
      | 5, _ => rfl
      | 6, _ => rfl
      | 7, _ => exact h0 7 (by omega)
      | 8, _ => rfl
      | j + 9, hj => exact absurd hj (by omega)
    · rw [upd_n (by omega), upd_n (by omega), upd_n (by omega), upd_n (by omega), upd_n (by omega), upd_n (by omega), upd_n (by omega), upd_n (by omega)]
      exact h0 j h2
  | succ d ih =>
    intro fu k re ba bd to hk hf h0
    obtain ⟨fu, rfl⟩ : ∃ m, fu = m + 1 := ⟨fu - 1, by omega⟩
    obtain ⟨to2, i1, i2⟩ := ih fu (k + 1) re ba bd (upd to k 0) (by omega) (by omega) (fun j hj => by
      by_cases e : j = k
      · rw [e]; exact upd_s _ _ _
      · rw [upd_n e]; exact h0 j (by omega))
    refine ⟨to2, ?_, i2⟩
    show fl_X12_atFirst_2 (fb_X12_atFirst_2 fu) _ _ = _
    unfold fl_X12_atFirst_2
    rw [if_neg (show ¬ (22 : Int32) ≤ nI k from nI_ge (b := 22) (by omega) (by decide)), chk_nI (by omega) (by decide), nI_clamp (by omega), bnd_e, bnd_e, nI_1]
    exact i1
theorem m_taken : ∀ (d fu k : Nat) (v : V12), k + d = 942 → d < fu → ∃ F2 : Nat → Int32, fb_X12_taken_2 fu v (nI k) = some (v.1, F2, v.2.2) ∧ (∀ j, j < 22 → F2 j = if k ≤ j then v.2.2.2.2.2.2.2.2.2.2.2.2.2.1 j else v.2.1 j) ∧ (F2 22 = if k ≤ 8 then v.2.2.2.2.2.2.2.2.2.2.2.2.2.1 8 else v.2.1 8) ∧ (∀ j, 23 ≤ j → j < 942 → F2 j = if k ≤ j then 0 else v.2.1 j) ∧ ∀ j, 942 ≤ j → F2 j = v.2.1 j := by
  intro d
  induction d with
  | zero =>
    intro fu k v hk hf
    obtain ⟨fu, rfl⟩ : ∃ m, fu = m + 1 := ⟨fu - 1, by omega⟩
    have hk : k = 942 := by omega
    subst hk
    refine ⟨upd v.2.1 22 (v.2.1 8), ?_, fun j hj => ?_, ?_, fun j h1 h2 => ?_, fun j hj => upd_n (by omega)⟩
    · show fl_X12_taken_2 (fb_X12_taken_2 fu) _ _ = _
      unfold fl_X12_taken_2
      rw [if_pos (show (942 : Int32) ≤ nI 942 by decide)]
      rfl
    · rw [if_neg (by omega), upd_n (by omega)]
    · rw [if_neg (by omega), upd_s]
    · rw [if_neg (by omega), upd_n (by omega)]
  | succ d ih =>
    intro fu k v hk hf
    obtain ⟨fu, rfl⟩ : ∃ m, fu = m + 1 := ⟨fu - 1, by omega⟩
    obtain ⟨F2, i1, i2, i3, i4, i5⟩ := ih fu (k + 1) (v.1, upd v.2.1 k (if 22 ≤ k then 0 else v.2.2.2.2.2.2.2.2.2.2.2.2.2.1 k), v.2.2) (by omega) (by omega)
    dsimp only at i2 i3 i4 i5
    refine ⟨F2, ?_, fun j hj => ?_, ?_, fun j h1 h2 => ?_, fun j hj => ?_⟩
    · refine Eq.trans ?_ i1
      show fl_X12_taken_2 (fb_X12_taken_2 fu) _ _ = _
      unfold fl_X12_taken_2
      rw [if_neg (show ¬ (942 : Int32) ≤ nI k from nI_ge (b := 942) (by omega) (by decide))]
      by_cases h22 : 22 ≤ k
      · rw [if_pos (show (22 : Int32) ≤ nI k from nI_le (a := 22) h22 (by omega)), chk_nI (by omega) (by decide), nI_clamp (by omega), bnd_e, bnd_e, nI_1, if_pos h22]
      · rw [if_neg (show ¬ (22 : Int32) ≤ nI k from nI_ge (b := 22) (by omega) (by decide)), chk_nI (by omega) (by decide), chk_nI (by omega) (by decide), nI_clamp (by omega), bnd_e, bnd_e, nI_1, if_neg h22]
    · rw [i2 j hj]
      by_cases e : j = k
      · subst e
        rw [if_neg (by omega), upd_s, if_neg (by omega), if_pos (Nat.le_refl _)]
      · by_cases h : k ≤ j
        · rw [if_pos (by omega), if_pos h]
        · rw [if_neg (by omega), if_neg h, upd_n e]
    · rw [i3]
      by_cases e : k = 8
      · subst e
        rw [if_neg (by omega), upd_s, if_neg (by omega), if_pos (Nat.le_refl _)]
      · by_cases h : k ≤ 8
        · rw [if_pos (by omega), if_pos h]
        · rw [if_neg (by omega), if_neg h, upd_n (by omega)]
    · rw [i4 j h1 h2]
      by_cases e : j = k
      · subst e
        rw [if_neg (by omega), upd_s, if_pos (by omega), if_pos (Nat.le_refl _)]
      · by_cases h : k ≤ j
        · rw [if_pos (by omega), if_pos h]
        · rw [if_neg (by omega), if_neg h, upd_n e]
    · rw [i5 j hj, upd_n (by omega)]
theorem m_taken2 (v : V12) : ∃ F2 : Nat → Int32, f_X12_taken v = some (v.1, F2, v.2.2) ∧ (∀ j, j < 22 → F2 j = v.2.2.2.2.2.2.2.2.2.2.2.2.2.1 j) ∧ F2 22 = F2 8 ∧ (∀ j, 23 ≤ j → j < 942 → F2 j = nI 0) ∧ ∀ j, 942 ≤ j → F2 j = v.2.1 j := by
  obtain ⟨F2, i1, i2, i3, i4, i5⟩ := m_taken 942 FU 0 v (by omega) (by show 942 < 8589934592; omega)
  refine ⟨F2, i1, fun j hj => by rw [i2 j hj, if_pos (Nat.zero_le _)], by rw [i3, i2 8 (by omega), if_pos (Nat.zero_le _)], fun j h1 h2 => by rw [i4 j h1 h2, if_pos (Nat.zero_le _)]; rfl, i5⟩
end FI
