section SA
/-- the SETTINGS -/
def RS (s : V7) (F : Nat → Int32) : Prop := (∀ k, k < 9 → F k = s.1 k) ∧ ∃ n : Nat, n ≤ 4 ∧ s.2.2.2.2 = nI n ∧ F 9 = nI n ∧ ∀ k, k < n → F (10 + 3 * k) = s.2.1 k ∧ F (11 + 3 * k) = s.2.2.1 k ∧ F (12 + 3 * k) = s.2.2.2.1 k ∧ isb (s.2.2.2.1 k)
theorem RS.frame {s : V7} {F F2 : Nat → Int32} (h : RS s F) (e : ∀ j, j < 22 → F2 j = F j) : RS s F2 := by
  obtain ⟨h1, n, h2, h3, h4, h5⟩ := h
  refine ⟨fun k hk => by rw [e k (by omega)]; exact h1 k hk, n, h2, h3, by rw [e 9 (by omega)]; exact h4, fun k hk => ?_⟩
  rw [e _ (by omega), e _ (by omega), e _ (by omega)]
  exact h5 k hk
/-- the SOURCE -/
def RO (o : V8) (F : Nat → Int32) : Prop := F 22 = o.1 ∧ F 23 = o.2.1 ∧ F 24 = o.2.2 ∧ isb o.2.2
theorem RO.frame {o : V8} {F F2 : Nat → Int32} (h : RO o F) (e : ∀ j, 22 ≤ j → j < 25 → F2 j = F j) : RO o F2 := by
  obtain ⟨h1, h2, h3, h4⟩ := h
  exact ⟨by rw [e 22 (by omega) (by omega)]; exact h1, by rw [e 23 (by omega) (by omega)]; exact h2, by rw [e 24 (by omega) (by omega)]; exact h3, h4⟩
/-- what is STUCK -/
def sk (s : V7) (d x : Int32) : Nat → Int32
  | 0 => x
  | n + 1 => if d < s.2.1 n then sk s d x n else if s.2.2.1 n < d then sk s d x n else s.2.2.2.1 n
theorem sk_s (s : V7) (d x : Int32) (n : Nat) : sk s d x (n + 1) = if d < s.2.1 n then sk s d x n else if s.2.2.1 n < d then sk s d x n else s.2.2.2.1 n := rfl
theorem sk_isb (s : V7) (d x : Int32) : ∀ n : Nat, isb x → (∀ k, k < n → isb (s.2.2.2.1 k)) → isb (sk s d x n)
  | 0, hx, _ => hx
  | n + 1, hx, hv => by
    unfold sk
    have ih := sk_isb s d x n hx (fun k hk => hv k (by omega))
    by_cases h1 : d < s.2.1 n
    · rw [if_pos h1]; exact ih
    · rw [if_neg h1]
      by_cases h2 : s.2.2.1 n < d
      · rw [if_pos h2]; exact ih
      · rw [if_neg h2]; exact hv n (by omega)
theorem x_stuck (s : V7) (d x : Int32) : ∀ (n fu : Nat), n ≤ 4 → n < fu → fb_X7_stuckAt_11 s fu d x (nI n - 1) = some (sk s d x n) := by
  intro n
  induction n with
  | zero =>
    intro fu hn hf
    obtain ⟨fu, rfl⟩ : ∃ m, fu = m + 1 := ⟨fu - 1, by omega⟩
    unfold fb_X7_stuckAt_11 fl_X7_stuckAt_11
    rw [if_pos (by decide)]
    rfl
  | succ n ih =>
    intro fu hn hf
    obtain ⟨fu, rfl⟩ : ∃ m, fu = m + 1 := ⟨fu - 1, by omega⟩
    have ih := ih fu (by omega) (by omega)
    unfold fb_X7_stuckAt_11 fl_X7_stuckAt_11 sk
    rw [nI_pred, if_neg (nI_pos (by omega))]
    simp only [chk_nI (show n < 4 by omega) (show 4 < 2 ^ 31 by decide), nI_clamp (show n < 2 ^ 31 by omega), bnd_e, add_m1, ih]
    by_cases h1 : d < s.2.1 n
    · rw [if_pos h1, if_pos h1]
    · rw [if_neg h1, if_neg h1]
      by_cases h2 : s.2.2.1 n < d
      · rw [if_pos h2, if_pos h2]
      · rw [if_neg h2, if_neg h2]
theorem x_stuckAt (s : V7) (d x : Int32) {n : Nat} (hn : n ≤ 4) (hs : s.2.2.2.2 = nI n) : f_X7_stuckAt s d x = some (sk s d x n) := by
  unfold f_X7_stuckAt
  rw [hs]
  have e : jmin (nI n) 4 = nI n := by
    unfold jmin
    by_cases h : (4 : Int32) < nI n
    · exact absurd h (nI_nlt (a := 4) (by omega) (by decide))
    · rw [if_neg h]
  rw [bnd_e, e, bnd_e]
  exact x_stuck s d x n FU hn (by show n < 8589934592; omega)
theorem m_in (p q r : Int32) : f_X12_in p q r = some (if p < q then 0 else if r < p then 0 else 1) := by
  unfold f_X12_in
  by_cases h1 : p < q
  · rw [if_pos h1, if_pos h1]
  · rw [if_neg h1, if_neg h1]
    by_cases h2 : r < p
    · rw [if_pos h2, if_pos h2]
    · rw [if_neg h2, if_neg h2]
theorem m_stuck (s : V7) (v : V12) (x : Int32) {n : Nat} (hn : n ≤ 4) (h9 : v.2.1 9 = nI n) (hs : ∀ k, k < n → v.2.1 (10 + 3 * k) = s.2.1 k ∧ v.2.1 (11 + 3 * k) = s.2.2.1 k ∧ v.2.1 (12 + 3 * k) = s.2.2.2.1 k) : ∀ (d fu k : Nat), k + d = n → d < fu → fb_X12_sample_48 fu v (sk s (v.2.1 23) x k) (nI k) = some (sk s (v.2.1 23) x n, (v.1, upd (upd v.2.1 23 (v.2.1 23 + 1)) 24 (sk s (v.2.1 23) x n), v.2.2)) := by
  intro d
  induction d with
  | zero =>
    intro fu k hk hf
    obtain ⟨fu, rfl⟩ : ∃ m, fu = m + 1 := ⟨fu - 1, by omega⟩
    have hk : k = n := by omega
    subst hk
    unfold fb_X12_sample_48 fl_X12_sample_48
    rw [show ((9 : Int32)).toNatClampNeg = 9 from rfl, h9, chk_in (by unfold vp_in; decide), if_pos (Int32.le_refl _)]
    rw [chk_in (by unfold vp_in; decide), chk_in (by unfold vp_in; decide), bnd_e, chk_in (by unfold vp_in; decide), bnd_e]
    rfl
  | succ d ih =>
    intro fu k hk hf
    obtain ⟨fu, rfl⟩ : ∃ m, fu = m + 1 := ⟨fu - 1, by omega⟩
    have ih := ih fu (k + 1) (by omega) (by omega)
    obtain ⟨e1, e2, e3⟩ := hs k (by omega)
    unfold fb_X12_sample_48 fl_X12_sample_48
    have i0 : (10 : Int32) + (3 : Int32) * nI k = nI (10 + 3 * k) := by
      show nI 10 + nI 3 * nI k = _
      rw [pk_mul, nI_add]
    have i1 : nI (10 + 3 * k) + 1 = nI (11 + 3 * k) := by
      rw [nI_1]; congr 1; omega
    have i2 : nI (10 + 3 * k) + 2 = nI (12 + 3 * k) := by
      show nI (10 + 3 * k) + nI 2 = _
      rw [nI_add]; congr 1; omega
    rw [show ((9 : Int32)).toNatClampNeg = 9 from rfl, h9, chk_in (by unfold vp_in; decide), if_neg (nI_ge (by omega) (by omega)), bnd_e, i0, i1, i2]
    rw [show ((23 : Int32)).toNatClampNeg = 23 from rfl, chk_in (by unfold vp_in; decide), chk_nI (by omega) (by decide), chk_nI (by omega) (by decide), nI_clamp (by omega), nI_clamp (by omega), nI_clamp (by omega), chk_nI (by omega) (by decide), e1, e2, e3, m_in, bnd1_s]
    simp only [bnd_e, nI_1]
    rw [sk_s] at ih
    by_cases h1 : v.2.1 23 < s.2.1 k
    · rw [if_pos h1] at ih
      rw [if_pos h1, if_pos rfl]
      exact ih
    · rw [if_neg h1] at ih
      rw [if_neg h1]
      by_cases h2 : s.2.2.1 k < v.2.1 23
      · rw [if_pos h2] at ih
        rw [if_pos h2, if_pos rfl]
        exact ih
      · rw [if_neg h2] at ih
        rw [if_neg h2, if_neg (by decide)]
        exact ih
theorem next_rel {s : V7} {o : V8} {v : V12} (hS : RS s v.2.1) (hO : RO o v.2.1) : ∃ (r : Int32) (o2 : V8) (F2 : Nat → Int32), f_X8_next o s = some (r, o2) ∧ f_X12_sample v = some (r, (v.1, F2, v.2.2)) ∧ isb r ∧ RO o2 F2 ∧ ∀ j, j < 22 ∨ 25 ≤ j → F2 j = v.2.1 j := by
  obtain ⟨s1, n, s2, s3, s4, s5⟩ := hS
  obtain ⟨o1, o2, o3, o4⟩ := hO
  obtain ⟨ox, od, ol⟩ := o
  dsimp only at o1 o2 o3 o4
  subst o1 o2 o3
  have fin : ∀ (X x : Int32) (F : Nat → Int32), F = upd v.2.1 22 X → isb x → ∃ (r : Int32) (o2 : V8) (F2 : Nat → Int32), fc_X8_next_37 s (X, v.2.1 23, v.2.1 24) x = some (r, o2) ∧ fb_X12_sample_48 FU (v.1, F, v.2.2) x 0 = some (r, (v.1, F2, v.2.2)) ∧ isb r ∧ RO o2 F2 ∧ ∀ j, j < 22 ∨ 25 ≤ j → F2 j = v.2.1 j := by
    intro X x F hF hx
    subst hF
    have hfr : ∀ j, j < 22 ∨ 23 ≤ j → upd v.2.1 22 X j = v.2.1 j := fun j hj => upd_n (by omega)
    have hm := m_stuck s (v.1, upd v.2.1 22 X, v.2.2) x s2 (by show upd v.2.1 22 X 9 = nI n; rw [hfr 9 (by omega)]; exact s4) (fun k hk => by
      show upd v.2.1 22 X (10 + 3 * k) = _ ∧ upd v.2.1 22 X (11 + 3 * k) = _ ∧ upd v.2.1 22 X (12 + 3 * k) = _
      rw [hfr _ (by omega), hfr _ (by omega), hfr _ (by omega)]
      exact ⟨(s5 k hk).1, (s5 k hk).2.1, (s5 k hk).2.2.1⟩) n FU 0 (by omega) (by show n < 8589934592; omega)
    have e23 : (v.1, upd v.2.1 22 X, v.2.2).2.1 23 = v.2.1 23 := hfr 23 (by omega)
    rw [e23] at hm
    refine ⟨sk s (v.2.1 23) x n, (X, v.2.1 23 + 1, sk s (v.2.1 23) x n), _, ?_, hm, sk_isb s _ _ n hx (fun k hk => (s5 k hk).2.2.2), ⟨?_, ?_, ?_, sk_isb s _ _ n hx (fun k hk => (s5 k hk).2.2.2)⟩, fun j hj => ?_⟩
    · unfold fc_X8_next_37
      rw [x_stuckAt s _ x s2 s3, bnd1_s, bnd_e]
    · rw [upd_n (by decide), upd_n (by decide)]
      show upd v.2.1 22 X 22 = X
      exact upd_s _ _ _
    · rw [upd_n (by decide)]; exact upd_s _ _ _
    · exact upd_s _ _ _
    · rw [upd_n (by omega), upd_n (by omega)]
      exact hfr j (by omega)
  have mdr : ∀ u : V12, f_X12_drawn u 16 = some (jushr (u.2.1 22 * 1103515245 + 12345) 16 - jushr (u.2.1 22 * 1103515245 + 12345) 16 / 16 * 16, (u.1, upd u.2.1 22 (u.2.1 22 * 1103515245 + 12345), u.2.2)) := by
    intro u
    unfold f_X12_drawn
    rw [show ((22 : Int32)).toNatClampNeg = 22 from rfl, chk_in (by unfold vp_in; decide), chk_in (by unfold vp_in; decide), bnd_e, chk_in (by unfold vp_in; decide), upd_s]
    rfl
  have xdr : ∀ u : V8, f_X8_belowSixteen u = some (jushr (u.1 * 1103515245 + 12345) 16 - jushr (u.1 * 1103515245 + 12345) 16 / 16 * 16, (u.1 * 1103515245 + 12345, u.2)) := by
    intro u
    unfold f_X8_belowSixteen
    rw [bnd_e]
    rfl
  unfold f_X8_next f_X12_sample
  rw [show ((24 : Int32)).toNatClampNeg = 24 from rfl, chk_in (by unfold vp_in; decide), bnd_e, mdr, xdr, bnd2_s, bnd2_s, show (7 : Int32) = nI 7 from rfl, val_nI s (by decide), bnd1_s, nI_clamp (by decide), chk_nI (by decide) (by decide)]
  dsimp only
  generalize hX : v.2.1 22 * 1103515245 + 12345 = X
  have e7 : upd v.2.1 22 X 7 = s.1 7 := by rw [upd_n (by decide)]; exact s1 7 (by decide)
  simp only [e7]
  by_cases h1 : jushr X 16 - jushr X 16 / 16 * 16 < s.1 7
  · rw [if_pos h1, if_pos h1]
    exact fin X (v.2.1 24) _ rfl o4
  · rw [if_neg h1, if_neg h1, mdr, xdr, bnd2_s, bnd2_s, show (6 : Int32) = nI 6 from rfl, val_nI s (by decide), bnd1_s, nI_clamp (by decide), chk_nI (by decide) (by decide)]
    have e6 : ∀ Y Z : Int32, upd (upd v.2.1 22 Y) 22 Z 6 = s.1 6 := fun Y Z => by rw [upd_n (by decide), upd_n (by decide)]; exact s1 6 (by decide)
    dsimp only
    simp only [upd_s, e6]
    have eF : ∀ Y : Int32, upd (upd v.2.1 22 X) 22 Y = upd v.2.1 22 Y := by
      intro Y
      funext j
      rw [upd_a, upd_a, upd_a]
      by_cases hj : j = 22
      · rw [if_pos hj, if_pos hj]
      · rw [if_neg hj, if_neg hj, if_neg hj]
    unfold fc_X8_next_36
    by_cases h2 : s.1 6 ≤ jushr (X * 1103515245 + 12345) 16 - jushr (X * 1103515245 + 12345) 16 / 16 * 16
    · rw [if_pos h2, if_pos h2]
      exact fin _ 0 _ (eF _) (Or.inl rfl)
    · rw [if_neg h2, if_neg h2]
      exact fin _ 1 _ (eF _) (Or.inr rfl)
end SA
