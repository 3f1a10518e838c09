section CO
theorem x_has (r : V6) (p : Int32) : f_X6_has r p = some 0 ∨ (f_X6_has r p = some 1 ∧ ∃ i : Nat, i < 15 ∧ p = nI i) := by
  unfold f_X6_has
  by_cases h0 : p < 0
  · rw [if_pos h0]; exact Or.inl rfl
  · rw [if_neg h0]
    by_cases h1 : r.2.2 ≤ p
    · rw [if_pos h1]; exact Or.inl rfl
    · rw [if_neg h1]
      obtain ⟨i, hi, e⟩ := nI_of h0
      by_cases h2 : i < 15
      · rw [if_neg (show ¬ (15 : Int32) ≤ p by rw [e]; exact nI_ge (b := 15) h2 (by decide))]
        exact Or.inr ⟨rfl, i, h2, e⟩
      · rw [if_pos (show (15 : Int32) ≤ p by rw [e]; exact nI_le (a := 15) (by omega) hi)]
        exact Or.inl rfl
theorem x_lenO (r : V6) (p : Int32) : ∃ a : Int32, f_X6_lengthOf r p = some a := by
  unfold f_X6_lengthOf
  rcases x_has r p with h | ⟨h, i, hi, e⟩
  · rw [h, bnd1_s, if_pos rfl]; exact ⟨_, rfl⟩
  · rw [h, bnd1_s, if_neg (by decide), e, chk_nI hi (by decide)]; exact ⟨_, rfl⟩
theorem x_smpO (r : V6) (p k : Int32) : ∃ a : Int32, f_X6_sampleOf r p k = some a := by
  unfold f_X6_sampleOf
  rcases x_has r p with h | ⟨h, i, hi, e⟩
  · rw [h, bnd1_s, if_pos rfl]; exact ⟨_, rfl⟩
  · rw [h, bnd1_s, if_neg (by decide)]
    by_cases c : k < 0
    · rw [if_pos c]; exact ⟨_, rfl⟩
    · rw [if_neg c, e, chk_nI hi (by decide)]
      by_cases c2 : r.2.1 (nI i).toNatClampNeg ≤ k
      · rw [if_pos c2]; exact ⟨_, rfl⟩
      · rw [if_neg c2, chk_nI hi (by decide)]; exact ⟨_, rfl⟩
theorem x_fulO (r : V6) (p : Int32) : f_X6_isFull r p = some 0 ∨ f_X6_isFull r p = some 1 := by
  unfold f_X6_isFull
  obtain ⟨a, h⟩ := x_lenO r p
  rw [h, bnd1_s]
  by_cases c : a = 15
  · rw [if_pos c]; exact Or.inr rfl
  · rw [if_neg c]; exact Or.inl rfl
theorem nt15 {i : Nat} (h : i < 15) : ¬ (15 : Int32) ≤ nI i := nI_ge (b := 15) h (by decide)
theorem x_fullO (r : V6) : ∀ (d fu i a : Nat), i + d = 15 → a ≤ i → d < fu → ∃ b : Nat, b ≤ 15 ∧ fb_X6_full_4 r fu (nI a) (nI i) = some (nI b) := by
  intro d
  induction d with
  | zero =>
    intro fu i a hi ha hf
    obtain ⟨fu, rfl⟩ : ∃ m, fu = m + 1 := ⟨fu - 1, by omega⟩
    have hi : i = 15 := by omega
    subst hi
    refine ⟨a, ha, ?_⟩
    show fl_X6_full_4 r (fb_X6_full_4 r fu) _ _ = _
    unfold fl_X6_full_4
    rw [if_pos (by decide)]
  | succ d ih =>
    intro fu i a hi ha hf
    obtain ⟨fu, rfl⟩ : ∃ m, fu = m + 1 := ⟨fu - 1, by omega⟩
    show ∃ b : Nat, b ≤ 15 ∧ fl_X6_full_4 r (fb_X6_full_4 r fu) (nI a) (nI i) = some (nI b)
    unfold fl_X6_full_4
    rw [if_neg (nt15 (by omega))]
    rcases x_fulO r (nI i) with h | h
    · rw [h, bnd1_s, if_pos rfl, bnd_e, nI_1]
      exact ih fu (i + 1) a (by omega) (by omega) (by omega)
    · rw [h, bnd1_s, if_neg (by decide), bnd_e, bnd_e, nI_1, nI_1]
      exact ih fu (i + 1) (a + 1) (by omega) (by omega) (by omega)
theorem x_morR (r : V6) (p : Int32) : ∃ a : Int32, f_X6_moreOfRow r p = some a := by
  unfold f_X6_moreOfRow f_J6_bitCount_0f7a4
  rcases x_has r p with h | ⟨h, i, hi, e⟩
  · rw [h, bnd1_s, if_pos rfl]; exact ⟨_, rfl⟩
  · rw [h, bnd1_s, if_neg (by decide)]
    rcases x_fulO r p with c | c
    · rw [c, bnd1_s, if_pos rfl]; exact ⟨_, rfl⟩
    · rw [c, bnd1_s, if_neg (by decide), e, chk_nI hi (by decide), bnd_e, bnd_e, bnd_e, bnd_e, bnd_e, bnd1_s, bnd_e]; exact ⟨_, rfl⟩
theorem x_graR (r : V6) : ∀ (d fu i : Nat) (x : Int32), i + d = 15 → d < fu → ∃ a : Int32, fb_X6_greatestRow_4 r fu x (nI i) = some a := by
  intro d
  induction d with
  | zero =>
    intro fu i x hi hf
    obtain ⟨fu, rfl⟩ : ∃ m, fu = m + 1 := ⟨fu - 1, by omega⟩
    have hi : i = 15 := by omega
    subst hi
    refine ⟨x, ?_⟩
    show fl_X6_greatestRow_4 r (fb_X6_greatestRow_4 r fu) _ _ = _
    unfold fl_X6_greatestRow_4
    rw [if_pos (by decide)]
  | succ d ih =>
    intro fu i x hi hf
    obtain ⟨fu, rfl⟩ : ∃ m, fu = m + 1 := ⟨fu - 1, by omega⟩
    show ∃ a : Int32, fl_X6_greatestRow_4 r (fb_X6_greatestRow_4 r fu) x (nI i) = some a
    unfold fl_X6_greatestRow_4
    obtain ⟨y, h⟩ := x_morR r (nI i)
    rw [if_neg (nt15 (by omega)), h, bnd1_s, bnd_e, bnd_e, nI_1]
    exact ih fu (i + 1) _ (by omega) (by omega)
theorem x_morC (r : V6) (c : Int32) : ∀ (d fu i : Nat) (x y : Int32), i + d = 15 → d < fu → ∃ a : Int32, fb_X6_moreOfColumn_7 r fu c x y (nI i) = some a := by
  intro d
  induction d with
  | zero =>
    intro fu i x y hi hf
    obtain ⟨fu, rfl⟩ : ∃ m, fu = m + 1 := ⟨fu - 1, by omega⟩
    have hi : i = 15 := by omega
    subst hi
    show ∃ a : Int32, fl_X6_moreOfColumn_7 r (fb_X6_moreOfColumn_7 r fu) c x y (nI 15) = some a
    unfold fl_X6_moreOfColumn_7
    rw [if_pos (by decide)]
    by_cases h : 2 ≤ y
    · rw [if_pos h, bnd_e]; exact ⟨_, rfl⟩
    · rw [if_neg h]; exact ⟨_, rfl⟩
  | succ d ih =>
    intro fu i x y hi hf
    obtain ⟨fu, rfl⟩ : ∃ m, fu = m + 1 := ⟨fu - 1, by omega⟩
    show ∃ a : Int32, fl_X6_moreOfColumn_7 r (fb_X6_moreOfColumn_7 r fu) c x y (nI i) = some a
    unfold fl_X6_moreOfColumn_7
    rw [if_neg (nt15 (by omega))]
    rcases x_fulO r (nI i) with h | h
    · rw [h, bnd1_s, if_pos rfl, bnd_e, nI_1]
      exact ih fu (i + 1) x y (by omega) (by omega)
    · obtain ⟨s, hs⟩ := x_smpO r (nI i) c
      rw [h, bnd1_s, if_neg (by decide), bnd_e, hs, bnd1_s, bnd_e, bnd_e, nI_1]
      exact ih fu (i + 1) _ _ (by omega) (by omega)
theorem x_morCO (r : V6) (c : Int32) : ∃ a : Int32, f_X6_moreOfColumn r c = some a := x_morC r c 15 FU 0 0 0 (by omega) (by decide)
theorem x_graC (r : V6) : ∀ (d fu i : Nat) (x : Int32), i + d = 15 → d < fu → ∃ a : Int32, fb_X6_greatestColumn_4 r fu x (nI i) = some a := by
  intro d
  induction d with
  | zero =>
    intro fu i x hi hf
    obtain ⟨fu, rfl⟩ : ∃ m, fu = m + 1 := ⟨fu - 1, by omega⟩
    have hi : i = 15 := by omega
    subst hi
    refine ⟨x, ?_⟩
    show fl_X6_greatestColumn_4 r (fb_X6_greatestColumn_4 r fu) _ _ = _
    unfold fl_X6_greatestColumn_4
    rw [if_pos (by decide)]
  | succ d ih =>
    intro fu i x hi hf
    obtain ⟨fu, rfl⟩ : ∃ m, fu = m + 1 := ⟨fu - 1, by omega⟩
    show ∃ a : Int32, fl_X6_greatestColumn_4 r (fb_X6_greatestColumn_4 r fu) x (nI i) = some a
    unfold fl_X6_greatestColumn_4
    obtain ⟨y, h⟩ := x_morCO r (nI i)
    rw [if_neg (nt15 (by omega)), h, bnd1_s, bnd_e, bnd_e, nI_1]
    exact ih fu (i + 1) _ (by omega) (by omega)
theorem x_abvR (r : V6) (m : Int32) : ∀ (d fu i : Nat) (x : Int32), i + d = 15 → d < fu → ∃ a : Int32, fb_X6_rowsAbove_4 r fu m x (nI i) = some a := by
  intro d
  induction d with
  | zero =>
    intro fu i x hi hf
    obtain ⟨fu, rfl⟩ : ∃ m, fu = m + 1 := ⟨fu - 1, by omega⟩
    have hi : i = 15 := by omega
    subst hi
    refine ⟨x, ?_⟩
    show fl_X6_rowsAbove_4 r (fb_X6_rowsAbove_4 r fu) _ _ _ = _
    unfold fl_X6_rowsAbove_4
    rw [if_pos (by decide)]
  | succ d ih =>
    intro fu i x hi hf
    obtain ⟨fu, rfl⟩ : ∃ m, fu = m + 1 := ⟨fu - 1, by omega⟩
    show ∃ a : Int32, fl_X6_rowsAbove_4 r (fb_X6_rowsAbove_4 r fu) m x (nI i) = some a
    unfold fl_X6_rowsAbove_4
    obtain ⟨y, h⟩ := x_morR r (nI i)
    rw [if_neg (nt15 (by omega)), h, bnd1_s]
    by_cases c : y ≤ m
    · rw [if_pos c, bnd_e, nI_1]
      exact ih fu (i + 1) _ (by omega) (by omega)
    · rw [if_neg c, bnd_e, bnd_e, nI_1]
      exact ih fu (i + 1) _ (by omega) (by omega)
theorem x_abvC (r : V6) (m : Int32) : ∀ (d fu i : Nat) (x : Int32), i + d = 15 → d < fu → ∃ a : Int32, fb_X6_columnsAbove_4 r fu m x (nI i) = some a := by
  intro d
  induction d with
  | zero =>
    intro fu i x hi hf
    obtain ⟨fu, rfl⟩ : ∃ m, fu = m + 1 := ⟨fu - 1, by omega⟩
    have hi : i = 15 := by omega
    subst hi
    refine ⟨x, ?_⟩
    show fl_X6_columnsAbove_4 r (fb_X6_columnsAbove_4 r fu) _ _ _ = _
    unfold fl_X6_columnsAbove_4
    rw [if_pos (by decide)]
  | succ d ih =>
    intro fu i x hi hf
    obtain ⟨fu, rfl⟩ : ∃ m, fu = m + 1 := ⟨fu - 1, by omega⟩
    show ∃ a : Int32, fl_X6_columnsAbove_4 r (fb_X6_columnsAbove_4 r fu) m x (nI i) = some a
    unfold fl_X6_columnsAbove_4
    obtain ⟨y, h⟩ := x_morCO r (nI i)
    rw [if_neg (nt15 (by omega)), h, bnd1_s]
    by_cases c : y ≤ m
    · rw [if_pos c, bnd_e, nI_1]
      exact ih fu (i + 1) _ (by omega) (by omega)
    · rw [if_neg c, bnd_e, bnd_e, nI_1]
      exact ih fu (i + 1) _ (by omega) (by omega)
theorem x_rowsOf {v0 : V11} {c lg W BL o n : Nat} (hSV : SV v0.1.1.1 c lg W BL o) (hn : n ≤ 15) : ∃ T : V2, f_X11_rowsOf v0 (nI n) = some (nI (lmW c lg n), (v0.1, v0.2.1, v0.2.2.1, v0.2.2.2.1, v0.2.2.2.2.1, T, v0.2.2.2.2.2.2)) := by
  obtain ⟨g0, g1, g2, g3, g4, g5, g6, g7, g8, g9, g10, g11, g12, g13, g14⟩ := hSV
  obtain ⟨T, t1, t2⟩ := x_fill v0.2.2.2.2.2.1 (c := c) (n := n) g2 hn
  refine ⟨(T, nI n, v0.2.2.2.2.2.1.2.2), ?_⟩
  unfold f_X11_rowsOf
  rw [show f_X7_valueOf v0.1.1 (0 : Int32) = f_X7_valueOf v0.1.1 (nI 0) from rfl, show f_X7_valueOf v0.1.1 (1 : Int32) = f_X7_valueOf v0.1.1 (nI 1) from rfl, val_nI _ (by decide), val_nI _ (by decide), bnd1_s, g0, g3, t1, bnd1_s, bnd1_s, x_least _ g1 g2 hn g5 t2, bnd1_s]
theorem x_comp {v0 : V11} {c lg W BL o : Nat} (hSV : SV v0.1.1.1 c lg W BL o) (p : Int32) : ∃ (r : Int32) (u : V11), u.1 = v0.1 ∧ f_X11_compared v0 p = some (r, u) := by
  unfold f_X11_compared
  by_cases h0 : p < 0 ∨ 4 < p
  · rw [if_pos h0]; exact ⟨_, v0, rfl, rfl⟩
  · rw [if_neg h0]
    obtain ⟨b, b1, b2⟩ := x_fullO v0.1.2.2.2.2.2.2.1 15 FU 0 0 (by omega) (by omega) (by decide)
    have b2' : f_X6_full v0.1.2.2.2.2.2.2.1 = some (nI b) := b2
    by_cases c0 : p = 0
    · rw [if_pos c0, b2', bnd1_s]; exact ⟨_, v0, rfl, rfl⟩
    · rw [if_neg c0]
      by_cases c1 : p = 1
      · obtain ⟨a, ha⟩ := x_graR v0.1.2.2.2.2.2.2.1 15 FU 0 0 (by omega) (by decide)
        have ha' : f_X6_greatestRow v0.1.2.2.2.2.2.2.1 = some a := ha
        rw [if_pos c1, ha', bnd1_s]; exact ⟨_, v0, rfl, rfl⟩
      · rw [if_neg c1]
        by_cases c2 : p = 2
        · obtain ⟨a, ha⟩ := x_graC v0.1.2.2.2.2.2.2.1 15 FU 0 0 (by omega) (by decide)
          have ha' : f_X6_greatestColumn v0.1.2.2.2.2.2.2.1 = some a := ha
          rw [if_pos c2, ha', bnd1_s]; exact ⟨_, v0, rfl, rfl⟩
        · rw [if_neg c2]
          by_cases c3 : p = 3
          · obtain ⟨T, t1⟩ := x_rowsOf hSV (n := 15) (by omega)
            obtain ⟨a, ha⟩ := x_abvR v0.1.2.2.2.2.2.2.1 (nI (lmW c lg 15)) 15 FU 0 0 (by omega) (by decide)
            have ha' : f_X6_rowsAbove v0.1.2.2.2.2.2.2.1 (nI (lmW c lg 15)) = some a := ha
            rw [if_pos c3, show f_X11_rowsOf v0 (15 : Int32) = _ from t1, bnd2_s]
            dsimp only
            rw [ha', bnd1_s]
            exact ⟨a, (v0.1, v0.2.1, v0.2.2.1, v0.2.2.2.1, v0.2.2.2.2.1, T, v0.2.2.2.2.2.2.1, v0.2.2.2.2.2.2.2), rfl, rfl⟩
          · have c4 : p = 4 := by
              have h1 : ¬ p < 0 := fun q => h0 (Or.inl q)
              obtain ⟨i, hi, e⟩ := nI_of h1
              rw [e] at h0 c0 c1 c2 c3 ⊢
              have : ¬ 4 < i := fun q => h0 (Or.inr (nI_lt (a := 4) q hi))
              have q0 : i ≠ 0 := fun q => c0 (by rw [q]; rfl)
              have q1 : i ≠ 1 := fun q => c1 (by rw [q]; rfl)
              have q2 : i ≠ 2 := fun q => c2 (by rw [q]; rfl)
              have q3 : i ≠ 3 := fun q => c3 (by rw [q]; rfl)
              rw [show i = 4 by omega]; rfl
            obtain ⟨T, t1⟩ := x_rowsOf hSV b1
            obtain ⟨a, ha⟩ := x_abvC v0.1.2.2.2.2.2.2.1 (nI (lmW c lg b)) 15 FU 0 0 (by omega) (by decide)
            have ha' : f_X6_columnsAbove v0.1.2.2.2.2.2.2.1 (nI (lmW c lg b)) = some a := ha
            rw [if_neg c3, if_pos c4, b2', bnd1_s, t1, bnd2_s]
            dsimp only
            rw [ha', bnd1_s]
            exact ⟨a, (v0.1, v0.2.1, v0.2.2.1, v0.2.2.2.1, v0.2.2.2.2.1, T, v0.2.2.2.2.2.2.1, v0.2.2.2.2.2.2.2), rfl, rfl⟩
theorem m_isW {v : V12} {i : Nat} (hi : i < 15) : f_X12_isWhole v (nI i) = some 0 ∨ f_X12_isWhole v (nI i) = some 1 := by
  unfold f_X12_isWhole
  rw [show f_X12_rowAt v (nI i) (0 : Int32) = _ from m_rowAt (k := 0) hi (by decide), bnd1_s]
  by_cases c : v.2.1 (702 + 16 * i + 0) = 15
  · rw [if_pos c]; exact Or.inr rfl
  · rw [if_neg c]; exact Or.inl rfl
theorem m_whole {v : V12} {N : Nat} (hN : N ≤ 15) (h701 : v.2.1 701 = nI N) : ∀ (d fu i a : Nat), i + d = N → a ≤ i → d < fu → ∃ b : Nat, b ≤ 15 ∧ fb_X12_wholeRows_4 v fu (nI a) (nI i) = some (nI b) := by
  intro d
  induction d with
  | zero =>
    intro fu i a hi ha hf
    obtain ⟨fu, rfl⟩ : ∃ m, fu = m + 1 := ⟨fu - 1, by omega⟩
    refine ⟨a, by omega, ?_⟩
    show fl_X12_wholeRows_4 v (fb_X12_wholeRows_4 v fu) _ _ = _
    unfold fl_X12_wholeRows_4
    rw [chk_in (show vp_in (701 : Int32) 4725 by unfold vp_in; decide), show ((701 : Int32)).toNatClampNeg = 701 from rfl, h701, if_pos (nI_le (by omega) (by omega))]
  | succ d ih =>
    intro fu i a hi ha hf
    obtain ⟨fu, rfl⟩ : ∃ m, fu = m + 1 := ⟨fu - 1, by omega⟩
    show ∃ b : Nat, b ≤ 15 ∧ fl_X12_wholeRows_4 v (fb_X12_wholeRows_4 v fu) (nI a) (nI i) = some (nI b)
    unfold fl_X12_wholeRows_4
    rw [chk_in (show vp_in (701 : Int32) 4725 by unfold vp_in; decide), show ((701 : Int32)).toNatClampNeg = 701 from rfl, h701, if_neg (nI_ge (by omega) (by omega))]
    rcases m_isW (v := v) (i := i) (by omega) with h | h
    · rw [h, bnd1_s, if_pos rfl, bnd_e, bnd_e, nI_1, Int32.add_zero]
      exact ih fu (i + 1) a (by omega) (by omega) (by omega)
    · rw [h, bnd1_s, if_neg (by decide), bnd_e, bnd_e, nI_1, nI_1]
      exact ih fu (i + 1) (a + 1) (by omega) (by omega) (by omega)
theorem m_ofR {v : V12} {i : Nat} (hi : i < 15) : ∀ (d fu k : Nat) (x : Int32), k + d = 15 → d < fu → ∃ a : Int32, fb_X12_ofRow_4 v fu (nI i) x (nI k) = some a := by
  intro d
  induction d with
  | zero =>
    intro fu k x hk hf
    obtain ⟨fu, rfl⟩ : ∃ m, fu = m + 1 := ⟨fu - 1, by omega⟩
    have hk : k = 15 := by omega
    subst hk
    show ∃ a : Int32, fl_X12_ofRow_4 v (fb_X12_ofRow_4 v fu) (nI i) x (nI 15) = some a
    unfold fl_X12_ofRow_4 f_X12_greater
    rw [if_pos (by decide)]
    by_cases c : x ≤ 15 - x
    · rw [if_pos c, bnd1_s]; exact ⟨_, rfl⟩
    · rw [if_neg c, bnd1_s]; exact ⟨_, rfl⟩
  | succ d ih =>
    intro fu k x hk hf
    obtain ⟨fu, rfl⟩ : ∃ m, fu = m + 1 := ⟨fu - 1, by omega⟩
    show ∃ a : Int32, fl_X12_ofRow_4 v (fb_X12_ofRow_4 v fu) (nI i) x (nI k) = some a
    unfold fl_X12_ofRow_4
    rw [if_neg (nt15 (by omega)), show (1 : Int32) + nI k = nI (1 + k) from nI_add 1 k, m_rowAt hi (by omega), bnd1_s, bnd_e, bnd_e, nI_1]
    exact ih fu (k + 1) _ (by omega) (by omega)
theorem m_great (x y : Int32) : ∃ a : Int32, f_X12_greater x y = some a := by
  unfold f_X12_greater
  by_cases c : x ≤ y
  · rw [if_pos c]; exact ⟨_, rfl⟩
  · rw [if_neg c]; exact ⟨_, rfl⟩
theorem m_ofC {v : V12} {N k : Nat} (hN : N ≤ 15) (h701 : v.2.1 701 = nI N) (hk : k < 15) (y : Int32) : ∀ (d fu i : Nat) (x : Int32), i + d = N → d < fu → ∃ a : Int32, fb_X12_ofColumn_5 v fu (nI k) y x (nI i) = some a := by
  intro d
  induction d with
  | zero =>
    intro fu i x hi hf
    obtain ⟨fu, rfl⟩ : ∃ m, fu = m + 1 := ⟨fu - 1, by omega⟩
    show ∃ a : Int32, fl_X12_ofColumn_5 v (fb_X12_ofColumn_5 v fu) (nI k) y x (nI i) = some a
    unfold fl_X12_ofColumn_5
    obtain ⟨a, ha⟩ := m_great x (y - x)
    rw [chk_in (show vp_in (701 : Int32) 4725 by unfold vp_in; decide), show ((701 : Int32)).toNatClampNeg = 701 from rfl, h701, if_pos (nI_le (by omega) (by omega)), ha, bnd1_s]
    exact ⟨_, rfl⟩
  | succ d ih =>
    intro fu i x hi hf
    obtain ⟨fu, rfl⟩ : ∃ m, fu = m + 1 := ⟨fu - 1, by omega⟩
    show ∃ a : Int32, fl_X12_ofColumn_5 v (fb_X12_ofColumn_5 v fu) (nI k) y x (nI i) = some a
    unfold fl_X12_ofColumn_5
    rw [chk_in (show vp_in (701 : Int32) 4725 by unfold vp_in; decide), show ((701 : Int32)).toNatClampNeg = 701 from rfl, h701, if_neg (nI_ge (by omega) (by omega))]
    rcases m_isW (v := v) (i := i) (by omega) with h | h
    · rw [h, bnd1_s, if_pos rfl, bnd_e, bnd_e, nI_1]
      exact ih fu (i + 1) _ (by omega) (by omega)
    · rw [h, bnd1_s, if_neg (by decide), show (1 : Int32) + nI k = nI (1 + k) from nI_add 1 k, m_rowAt (by omega) (by omega), bnd1_s, bnd_e, bnd_e, nI_1]
      exact ih fu (i + 1) _ (by omega) (by omega)
theorem m_188 (v : V12) (x1 x2 x3 x4 : Int32) : ∃ r : Int32, fc_X12_compared_188 v x1 x2 x3 x4 = some (r, v) := by
  unfold fc_X12_compared_188
  by_cases a : x1 = 0
  · rw [if_pos a]; exact ⟨_, rfl⟩
  · rw [if_neg a]
    by_cases b : 3 ≤ x1
    · rw [if_pos b]; exact ⟨_, rfl⟩
    · rw [if_neg b]; exact ⟨_, rfl⟩
theorem m_124 {v : V12} {N : Nat} (hN : N ≤ 15) (h701 : v.2.1 701 = nI N) (x1 x2 x5 : Int32) : ∀ (d fu k : Nat) (x3 x4 : Int32), k + d = 15 → d < fu → ∃ r : Int32, fb_X12_compared_124 fu v x1 x2 x3 x4 x5 (nI k) = some (r, v) := by
  intro d
  induction d with
  | zero =>
    intro fu k x3 x4 hk hf
    obtain ⟨fu, rfl⟩ : ∃ m, fu = m + 1 := ⟨fu - 1, by omega⟩
    have hk : k = 15 := by omega
    subst hk
    show ∃ r : Int32, fl_X12_compared_124 (fb_X12_compared_124 fu) v x1 x2 x3 x4 x5 (nI 15) = some (r, v)
    unfold fl_X12_compared_124
    rw [if_pos (by decide)]
    exact m_188 v x1 x2 x3 x4
  | succ d ih =>
    intro fu k x3 x4 hk hf
    obtain ⟨fu, rfl⟩ : ∃ m, fu = m + 1 := ⟨fu - 1, by omega⟩
    show ∃ r : Int32, fl_X12_compared_124 (fb_X12_compared_124 fu) v x1 x2 x3 x4 x5 (nI k) = some (r, v)
    unfold fl_X12_compared_124
    rw [if_neg (nt15 (by omega))]
    have h146 : ∃ r : Int32, fc_X12_compared_146 (fb_X12_compared_124 fu) v x1 x2 x3 x4 x5 (nI k) = some (r, v) := by
      unfold fc_X12_compared_146
      obtain ⟨a, ha⟩ := m_ofC hN h701 (k := k) (by omega) x2 N FU 0 0 (by omega) (by show N < 8589934592; omega)
      have ha' : f_X12_ofColumn v (nI k) x2 = some a := ha
      obtain ⟨b, hb⟩ := m_great x3 a
      rw [ha', bnd1_s, hb, bnd1_s]
      by_cases c : a ≤ x5
      · rw [if_pos c, bnd_e, bnd_e, nI_1]
        exact ih fu (k + 1) _ _ (by omega) (by omega)
      · rw [if_neg c, bnd_e, bnd_e, nI_1]
        exact ih fu (k + 1) _ _ (by omega) (by omega)
    by_cases c1 : x2 ≤ 1
    · rw [if_pos c1]; exact m_188 v x1 x2 x3 x4
    · rw [if_neg c1]
      by_cases c2 : x1 = 2
      · rw [if_pos c2]; exact h146
      · rw [if_neg c2]
        by_cases c3 : x1 = 4
        · rw [if_pos c3]; exact h146
        · rw [if_neg c3]; exact m_188 v x1 x2 x3 x4
theorem m_37 {v : V12} {N c lg b : Nat} (hN : N ≤ 15) (h701 : v.2.1 701 = nI N) (h0 : v.2.1 0 = nI c) (h1 : v.2.1 1 = nI lg) (c1 : 8 ≤ c) (c2 : c ≤ 15) (l2 : lg ≤ 40) (hb : b ≤ 15) (x1 x5 : Int32) : ∀ (d fu k : Nat) (x3 x4 : Int32), k + d = N → d < fu → ∃ r : Int32, fb_X12_compared_37 fu v x1 (nI b) x3 x4 x5 (nI k) = some (r, v) := by
  have h114 : ∀ x3 x4 : Int32, ∃ r : Int32, fc_X12_compared_114 v x1 (nI b) x3 x4 = some (r, v) := by
    intro x3 x4
    unfold fc_X12_compared_114
    rw [m_rows h0 h1 c1 c2 l2 hb, bnd1_s]
    exact m_124 hN h701 x1 (nI b) _ 15 FU 0 x3 x4 (by omega) (by decide)
  intro d
  induction d with
  | zero =>
    intro fu k x3 x4 hk hf
    obtain ⟨fu, rfl⟩ : ∃ m, fu = m + 1 := ⟨fu - 1, by omega⟩
    show ∃ r : Int32, fl_X12_compared_37 (fb_X12_compared_37 fu) v x1 (nI b) x3 x4 x5 (nI k) = some (r, v)
    unfold fl_X12_compared_37
    rw [chk_in (show vp_in (701 : Int32) 4725 by unfold vp_in; decide), show ((701 : Int32)).toNatClampNeg = 701 from rfl, h701, if_pos (nI_le (by omega) (by omega))]
    exact h114 x3 x4
  | succ d ih =>
    intro fu k x3 x4 hk hf
    obtain ⟨fu, rfl⟩ : ∃ m, fu = m + 1 := ⟨fu - 1, by omega⟩
    show ∃ r : Int32, fl_X12_compared_37 (fb_X12_compared_37 fu) v x1 (nI b) x3 x4 x5 (nI k) = some (r, v)
    unfold fl_X12_compared_37
    rw [chk_in (show vp_in (701 : Int32) 4725 by unfold vp_in; decide), show ((701 : Int32)).toNatClampNeg = 701 from rfl, h701, if_neg (nI_ge (by omega) (by omega))]
    have h79 : ∀ t : Int32, ∃ r : Int32, fc_X12_compared_79 (fb_X12_compared_37 fu) v x1 (nI b) x3 x4 x5 (nI k) t = some (r, v) := by
      intro t
      unfold fc_X12_compared_79
      obtain ⟨a, ha⟩ := m_great x3 t
      rw [ha, bnd1_s]
      by_cases q : t ≤ x5
      · rw [if_pos q, bnd_e, bnd_e, nI_1]
        exact ih fu (k + 1) _ _ (by omega) (by omega)
      · rw [if_neg q, bnd_e, bnd_e, nI_1]
        exact ih fu (k + 1) _ _ (by omega) (by omega)
    have h60 : ∃ r : Int32, fc_X12_compared_60 (fb_X12_compared_37 fu) v x1 (nI b) x3 x4 x5 (nI k) = some (r, v) := by
      unfold fc_X12_compared_60
      rcases m_isW (v := v) (i := k) (by omega) with h | h
      · rw [h, bnd1_s, if_pos rfl]; exact h79 0
      · obtain ⟨a, ha⟩ := m_ofR (v := v) (i := k) (by omega) 15 FU 0 0 (by omega) (by decide)
        have ha' : f_X12_ofRow v (nI k) = some a := ha
        rw [h, bnd1_s, if_neg (by decide), ha', bnd1_s]
        exact h79 a
    by_cases q1 : x1 = 1
    · rw [if_pos q1]; exact h60
    · rw [if_neg q1]
      by_cases q2 : x1 = 3
      · rw [if_pos q2]; exact h60
      · rw [if_neg q2]; exact h114 x3 x4
theorem q_compared {B : Nat} {v0 : V11} {v : V12} (hR : R B v0.1 v.2.1) (p : Int32) : ∃ (r r2 : Int32) (u : V11), u.1 = v0.1 ∧ f_X11_compared v0 p = some (r, u) ∧ f_X12_compared v p = some (r2, (0, v.2)) := by
  obtain ⟨c, lg, W, BL, o, hSV, hS, -, -, -, -, -, hRr, -⟩ := hR
  obtain ⟨f0, f1, -⟩ := hSV.cells hS
  obtain ⟨r, u, u1, u2⟩ := x_comp hSV p
  obtain ⟨N, n1, -, n3, -⟩ := hRr
  obtain ⟨g0, g1, g2, g3, g4, g5, -⟩ := hSV
  have hm : ∃ r2 : Int32, f_X12_compared v p = some (r2, (0, v.2)) := by
    unfold f_X12_compared
    rw [show f_X12_in p 0 4 = f_X12_in p 0 (nI 5 - 1) from rfl]
    rcases in0 p (n := 5) (by decide) with ⟨k, k1, k2, k3⟩ | ⟨k1, k2⟩
    · obtain ⟨b, b1, b2⟩ := m_whole (v := (0, v.2)) n1 n3 N FU 0 0 (by omega) (by omega) (by show N < 8589934592; omega)
      have b2' : f_X12_wholeRows (0, v.2) = some (nI b) := b2
      rw [k3, bnd1_s, if_neg (by decide), b2', bnd1_s, show f_X12_rowsLimit ((0 : Int32), v.2) (15 : Int32) = _ from m_rows (v := (0, v.2)) (n := 15) f0 f1 g1 g2 g5 (by decide), bnd1_s]
      exact m_37 (v := (0, v.2)) n1 n3 f0 f1 g1 g2 g5 b1 p _ N FU 0 0 0 (by omega) (by show N < 8589934592; omega)
    · exact ⟨-1, by rw [k2, bnd1_s, if_pos rfl]⟩
  obtain ⟨r2, h2⟩ := hm
  exact ⟨r, r2, u, u1, u2, h2⟩
end CO
