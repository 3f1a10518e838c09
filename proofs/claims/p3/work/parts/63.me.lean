section ME
/-- the reference with another fraction -/
def sB (v : V12) (a b : Int64) : V12 := (v.1, v.2.1, v.2.2.1, v.2.2.2.1, v.2.2.2.2.1, v.2.2.2.2.2.1, v.2.2.2.2.2.2.1, v.2.2.2.2.2.2.2.1, v.2.2.2.2.2.2.2.2.1, v.2.2.2.2.2.2.2.2.2.1, v.2.2.2.2.2.2.2.2.2.2.1, v.2.2.2.2.2.2.2.2.2.2.2.1, v.2.2.2.2.2.2.2.2.2.2.2.2.1, v.2.2.2.2.2.2.2.2.2.2.2.2.2.1, v.2.2.2.2.2.2.2.2.2.2.2.2.2.2.1, v.2.2.2.2.2.2.2.2.2.2.2.2.2.2.2.1, v.2.2.2.2.2.2.2.2.2.2.2.2.2.2.2.2.1, v.2.2.2.2.2.2.2.2.2.2.2.2.2.2.2.2.2.1, v.2.2.2.2.2.2.2.2.2.2.2.2.2.2.2.2.2.2.1, a, b, v.2.2.2.2.2.2.2.2.2.2.2.2.2.2.2.2.2.2.2.2.2)
/-- the latest n bits in both -/
def BT (u : V0) (F : Nat → Int32) (n : Nat) (g : Nat → Nat) : Prop := u.2.2.1 = nI n ∧ 1 ≤ n ∧ n ≤ 400 ∧ (∀ k, k < n → g k ≤ 1 ∧ u.1 k = nI (g k)) ∧ ∀ w : V12, w.2.1 = F → ∀ k, k < n → f_X12_late w (nI n) (nI k) = some (nI (g k))
theorem LD.bt {u : V0} {F : Nat → Int32} {H n : Nat} (h : LD u F H n) : ∃ g : Nat → Nat, BT u F n g := by
  obtain ⟨h1, h2, h3, h4, h5, h6⟩ := h
  have hg : ∀ k, k < n → (u.1 k).toNatClampNeg ≤ 1 ∧ u.1 k = nI (u.1 k).toNatClampNeg := fun k hk => by
    obtain ⟨e1, e2⟩ := h6 k hk
    rw [e1]
    rcases e2 with e2 | e2 <;> rw [e2] <;> decide
  refine ⟨fun k => (u.1 k).toNatClampNeg, h1, h2, by omega, hg, fun w hw k hk => ?_⟩
  show f_X12_late w (nI n) (nI k) = some (nI (u.1 k).toNatClampNeg)
  rw [m_late h4 h3 (by rw [hw]; exact h5) hk, hw, ← (hg k hk).2, (h6 k hk).1]
theorem mx_j {a b : Nat} (ha : a < 2 ^ 31) (hb : b < 2 ^ 31) : jmax (nI a) (nI b) = nI (max a b) := by
  unfold jmax
  by_cases h : a < b
  · rw [if_pos (nI_lt h hb), Nat.max_eq_right (by omega)]
  · rw [if_neg (nI_nlt (by omega) ha), Nat.max_eq_left (by omega)]
theorem mx_g {a b : Nat} (ha : a < 2 ^ 31) (hb : b < 2 ^ 31) : f_X12_greater (nI a) (nI b) = some (nI (max a b)) := by
  unfold f_X12_greater
  by_cases h : a ≤ b
  · rw [if_pos (nI_le h hb), Nat.max_eq_right h]
  · rw [if_neg (nI_ge (by omega) ha), Nat.max_eq_left (by omega)]
theorem n400 {k : Nat} (h : k < 400) : ¬ (400 : Int32) ≤ nI k := nI_ge (b := 400) h (by decide)
theorem me_common {u : V0} {F : Nat → Int32} {n : Nat} {g : Nat → Nat} (hB : BT u F n g) {v : V12} (hv : v.2.1 = F) : ∀ (d f1 f2 k a : Nat), k + d = n → d < f1 → d < f2 → a ≤ k → ∃ r : Nat, r ≤ 400 ∧ fb_X0_measureCommon_4 f1 u (nI a) (nI k) = some (u.1, u.2.1, u.2.2.1, nI r, nI n) ∧ fb_X12_common_4 v f2 (nI n) (nI a) (nI k) = some (nI r) := by
  obtain ⟨h1, h2, h3, h4, h5⟩ := hB
  intro d
  induction d with
  | zero =>
    intro f1 f2 k a hk hf1 hf2 ha
    obtain ⟨f1, rfl⟩ : ∃ m, f1 = m + 1 := ⟨f1 - 1, by omega⟩
    obtain ⟨f2, rfl⟩ : ∃ m, f2 = m + 1 := ⟨f2 - 1, by omega⟩
    refine ⟨max a (n - a), by omega, ?_, ?_⟩
    · show fl_X0_measureCommon_4 (fb_X0_measureCommon_4 f1) u _ _ = _
      unfold fl_X0_measureCommon_4 fc_X0_measureCommon_34
      rw [h1, if_pos (nI_le (by omega) (by omega)), pk_sub (by omega), mx_j (by omega) (by omega), bnd_e]
    · show fl_X12_common_4 v (fb_X12_common_4 v f2) _ _ _ = _
      unfold fl_X12_common_4
      rw [if_pos (nI_le (by omega) (by omega)), pk_sub (by omega), mx_g (by omega) (by omega), bnd1_s]
  | succ d ih =>
    intro f1 f2 k a hk hf1 hf2 ha
    obtain ⟨f1, rfl⟩ : ∃ m, f1 = m + 1 := ⟨f1 - 1, by omega⟩
    obtain ⟨f2, rfl⟩ : ∃ m, f2 = m + 1 := ⟨f2 - 1, by omega⟩
    obtain ⟨g1, g2⟩ := h4 k (by omega)
    obtain ⟨r, r1, r2, r3⟩ := ih f1 f2 (k + 1) (a + g k) (by omega) (by omega) (by omega) (by omega)
    refine ⟨r, r1, ?_, ?_⟩
    · refine Eq.trans ?_ r2
      show fl_X0_measureCommon_4 (fb_X0_measureCommon_4 f1) u _ _ = _
      unfold fl_X0_measureCommon_4
      rw [h1, if_neg (nI_ge (by omega) (by omega)), if_neg (n400 (by omega)), chk_nI (by omega) (by decide), nI_clamp (by omega), g2, nI_add, bnd_e, bnd_e, nI_1]
    · refine Eq.trans ?_ r3
      show fl_X12_common_4 v (fb_X12_common_4 v f2) _ _ _ = _
      unfold fl_X12_common_4
      rw [if_neg (nI_ge (by omega) (by omega)), h5 v hv k (by omega), bnd1_s, nI_add, bnd_e, bnd_e, nI_1]
theorem me_coll {u : V0} {F : Nat → Int32} {n : Nat} {g : Nat → Nat} (hB : BT u F n g) {v : V12} (hv : v.2.1 = F) : ∀ (D f1 f2 k a b : Nat), n - k < D → D + 1 < f1 → D < f2 → k ≤ n → a ≤ k → b ≤ k → ∃ a2 b2 : Nat, a2 ≤ 400 ∧ b2 ≤ 400 ∧ fb_X0_measureCollision_12 f1 (u.1, u.2.1, u.2.2.1, nI a, nI b) (nI k) = some (u.1, u.2.1, u.2.2.1, nI a2, nI b2) ∧ fb_X12_laysCollision_12 f2 (sB v (lN a) (lN b)) (nI n) (nI k) = some (sB v (lN a2) (lN b2)) := by
  obtain ⟨h1, h2, h3, h4, h5⟩ := hB
  intro D
  induction D with
  | zero => intro f1 f2 k a b h; exact absurd h (Nat.not_lt_zero _)
  | succ D ih =>
    intro f1 f2 k a b hD hf1 hf2 hk ha hb
    obtain ⟨f1, rfl⟩ : ∃ m, f1 = m + 1 := ⟨f1 - 1, by omega⟩
    obtain ⟨f2, rfl⟩ : ∃ m, f2 = m + 1 := ⟨f2 - 1, by omega⟩
    by_cases hend : n ≤ k + 1
    · refine ⟨a, b, by omega, by omega, ?_, ?_⟩
      · show fl_X0_measureCollision_12 (fb_X0_measureCollision_12 f1) _ _ = _
        unfold fl_X0_measureCollision_12
        dsimp only
        rw [h1, nI_1, if_pos (nI_le hend (by omega))]
      · show fl_X12_laysCollision_12 (fb_X12_laysCollision_12 f2) _ _ _ = _
        unfold fl_X12_laysCollision_12
        rw [nI_1, if_pos (nI_le hend (by omega))]
    · obtain ⟨g1, g2⟩ := h4 k (by omega)
      obtain ⟨g3, g4⟩ := h4 (k + 1) (by omega)
      have key : ∀ t : Nat, t = 2 ∨ t = 3 → ∃ a2 b2 : Nat, a2 ≤ 400 ∧ b2 ≤ 400 ∧ fc_X0_measureCollision_53 (fb_X0_measureCollision_12 f1) (u.1, u.2.1, u.2.2.1, nI a, nI b) (nI k) (nI t) = some (u.1, u.2.1, u.2.2.1, nI a2, nI b2) ∧ fc_X12_laysCollision_41 (fb_X12_laysCollision_12 f2) (sB v (lN a) (lN b)) (nI n) (nI k) (nI t) = some (sB v (lN a2) (lN b2)) := by
        intro t ht
        unfold fc_X0_measureCollision_53 fc_X12_laysCollision_41
        dsimp only
        rw [nI_add, h1, bnd_e]
        by_cases hc : k + t ≤ n
        · obtain ⟨a2, b2, r1, r2, r3, r4⟩ := ih f1 f2 (k + t) (a + t) (b + 1) (by omega) (by omega) (by omega) hc (by omega) (by omega)
          refine ⟨a2, b2, r1, r2, ?_, ?_⟩
          · rw [if_neg (nI_nlt hc (by omega)), bnd_e, bnd_e, nI_add, nI_1, ← h1]
            exact r3
          · rw [if_pos (nI_le hc (by omega)), bnd_e, bnd_e, bnd_e, nI_l (by omega)]
            refine Eq.trans ?_ r4
            show fb_X12_laysCollision_12 f2 (sB v (lN a + lN t) (lN b + 1)) (nI n) (nI (k + t)) = _
            rw [lN_add, lN_1]
        · obtain ⟨f1, rfl⟩ : ∃ m, f1 = m + 1 := ⟨f1 - 1, by omega⟩
          refine ⟨a, b, by omega, by omega, ?_, ?_⟩
          · rw [if_pos (nI_lt (by omega) (by omega)), ← h1]
            show fl_X0_measureCollision_12 (fb_X0_measureCollision_12 f1) _ _ = _
            unfold fl_X0_measureCollision_12
            dsimp only
            rw [h1, nI_1, if_pos (nI_le (by omega) (by omega))]
          · rw [if_neg (nI_ge (by omega) (by omega))]
      have hX : fb_X0_measureCollision_12 (f1 + 1) (u.1, u.2.1, u.2.2.1, nI a, nI b) (nI k) = if g k = g (k + 1) then fc_X0_measureCollision_53 (fb_X0_measureCollision_12 f1) (u.1, u.2.1, u.2.2.1, nI a, nI b) (nI k) (nI 2) else fc_X0_measureCollision_53 (fb_X0_measureCollision_12 f1) (u.1, u.2.1, u.2.2.1, nI a, nI b) (nI k) (nI 3) := by
        show fl_X0_measureCollision_12 (fb_X0_measureCollision_12 f1) _ _ = _
        unfold fl_X0_measureCollision_12
        dsimp only
        rw [h1, nI_1, if_neg (nI_ge (by omega) (by omega)), if_neg (n400 (by omega)), chk_nI (by omega) (by decide), chk_nI (by omega) (by decide), nI_clamp (by omega), nI_clamp (by omega)]
        by_cases e : g k = g (k + 1)
        · rw [if_pos (show u.1 k = u.1 (k + 1) by rw [g2, g4, e]), if_pos e]
          rfl
        · rw [if_neg (show ¬ u.1 k = u.1 (k + 1) by rw [g2, g4]; exact fun q => e ((nI_eq (by omega) (by omega)).mp q)), if_neg e]
          rfl
      have hM : fb_X12_laysCollision_12 (f2 + 1) (sB v (lN a) (lN b)) (nI n) (nI k) = if g k = g (k + 1) then fc_X12_laysCollision_41 (fb_X12_laysCollision_12 f2) (sB v (lN a) (lN b)) (nI n) (nI k) (nI 2) else fc_X12_laysCollision_41 (fb_X12_laysCollision_12 f2) (sB v (lN a) (lN b)) (nI n) (nI k) (nI 3) := by
        show fl_X12_laysCollision_12 (fb_X12_laysCollision_12 f2) _ _ _ = _
        unfold fl_X12_laysCollision_12
        rw [nI_1, if_neg (nI_ge (by omega) (by omega)), h5 (sB v (lN a) (lN b)) hv k (by omega), bnd1_s, h5 (sB v (lN a) (lN b)) hv (k + 1) (by omega), bnd1_s]
        by_cases e : g k = g (k + 1)
        · rw [if_pos (by rw [e]), if_pos e]
          rfl
        · rw [if_neg (fun q => e ((nI_eq (by omega) (by omega)).mp q)), if_neg e]
          rfl
      rw [hX, hM]
      by_cases e : g k = g (k + 1)
      · rw [if_pos e, if_pos e]; exact key 2 (Or.inl rfl)
      · rw [if_neg e, if_neg e]; exact key 3 (Or.inr rfl)
/-- after which bit, how many; and how many ones follow -/
def fc_ (g : Nat → Nat) (b : Nat) : Nat → Nat
  | 0 => 0
  | k + 1 => fc_ g b k + (if g k = b then 1 else 0)
def fs_ (g : Nat → Nat) (b : Nat) : Nat → Nat
  | 0 => 0
  | k + 1 => fs_ g b k + (if g k = b then g (k + 1) else 0)
theorem fc_s (g : Nat → Nat) (b k : Nat) : fc_ g b (k + 1) = fc_ g b k + (if g k = b then 1 else 0) := rfl
theorem fs_s (g : Nat → Nat) (b k : Nat) : fs_ g b (k + 1) = fs_ g b k + (if g k = b then g (k + 1) else 0) := rfl
theorem fs_le {g : Nat → Nat} {b n : Nat} (h : ∀ k, k < n → g k ≤ 1) : ∀ k, k < n → fs_ g b k ≤ fc_ g b k ∧ fc_ g b k ≤ k
  | 0, _ => ⟨Nat.le_refl _, Nat.le_refl _⟩
  | k + 1, hk => by
    have ih := fs_le (b := b) h k (by omega)
    have := h (k + 1) hk
    unfold fs_ fc_
    by_cases e : g k = b
    · rw [if_pos e, if_pos e]; omega
    · rw [if_neg e, if_neg e]; omega
theorem fc_sum {g : Nat → Nat} {n : Nat} (h : ∀ k, k < n → g k ≤ 1) : ∀ k, k ≤ n → fc_ g 0 k + fc_ g 1 k = k
  | 0, _ => rfl
  | k + 1, hk => by
    have ih := fc_sum h k (by omega)
    have := h k (by omega)
    unfold fc_
    have e : g k = 0 ∨ g k = 1 := by omega
    rcases e with e | e
    · rw [if_pos e, if_neg (by omega)]; omega
    · rw [if_neg (by omega), if_pos e]; omega
theorem me_follow {u : V0} {F : Nat → Int32} {n : Nat} {g : Nat → Nat} (hB : BT u F n g) : ∀ (d f1 k : Nat), k + d + 1 = n → d < f1 → fb_X0_measureFollow_9 f1 u (nI (fc_ g 1 k)) (nI (fs_ g 1 k)) (nI (fs_ g 0 k)) (nI k) = fc_X0_measureFollow_77 u (nI (fc_ g 1 (n - 1))) (nI (fs_ g 1 (n - 1))) (nI (fs_ g 0 (n - 1))) := by
  obtain ⟨h1, h2, h3, h4, h5⟩ := hB
  intro d
  induction d with
  | zero =>
    intro f1 k hk hf1
    obtain ⟨f1, rfl⟩ : ∃ m, f1 = m + 1 := ⟨f1 - 1, by omega⟩
    have hk2 : k = n - 1 := by omega
    subst hk2
    show fl_X0_measureFollow_9 (fb_X0_measureFollow_9 f1) u _ _ _ _ = _
    unfold fl_X0_measureFollow_9
    rw [h1, nI_1, if_pos (nI_le (by omega) (by omega))]
  | succ d ih =>
    intro f1 k hk hf1
    obtain ⟨f1, rfl⟩ : ∃ m, f1 = m + 1 := ⟨f1 - 1, by omega⟩
    have ih := ih f1 (k + 1) (by omega) (by omega)
    obtain ⟨g1, g2⟩ := h4 k (by omega)
    obtain ⟨g3, g4⟩ := h4 (k + 1) (by omega)
    refine Eq.trans ?_ ih
    show fl_X0_measureFollow_9 (fb_X0_measureFollow_9 f1) u _ _ _ _ = _
    unfold fl_X0_measureFollow_9
    rw [h1, nI_1, if_neg (nI_ge (by omega) (by omega)), if_neg (n400 (by omega)), chk_nI (by omega) (by decide), nI_clamp (n := k) (by omega), nI_clamp (n := k + 1) (by omega), g4, fc_s, fs_s, fs_s]
    by_cases e : g k = 1
    · rw [if_pos (show u.1 k = (1 : Int32) by rw [g2, e]; rfl), bnd_e, chk_nI (by omega) (by decide), bnd_e, bnd_e, nI_1, nI_add, if_pos e, if_pos e, if_neg (show ¬ g k = 0 by omega)]
      rfl
    · rw [if_neg (show ¬ u.1 k = (1 : Int32) by rw [g2]; exact fun q => e ((nI_eq (b := 1) (by omega) (by decide)).mp q)), chk_nI (by omega) (by decide), bnd_e, bnd_e, nI_add, if_neg e, if_neg e, if_pos (show g k = 0 by omega)]
      rfl
theorem me_after {u : V0} {F : Nat → Int32} {n : Nat} {g : Nat → Nat} (hB : BT u F n g) {v : V12} (hv : v.2.1 = F) {b : Nat} (hb : b ≤ 1) : ∀ (d f1 k : Nat), k + d + 1 = n → d < f1 → fb_X12_laysAfter_8 f1 v (nI n) (nI b) (nI (fs_ g b k)) (nI (fc_ g b k)) (nI k) = some (sB v (lN (max (fs_ g b (n - 1)) (fc_ g b (n - 1) - fs_ g b (n - 1)))) (lN (fc_ g b (n - 1)))) := by
  obtain ⟨h1, h2, h3, h4, h5⟩ := hB
  intro d
  induction d with
  | zero =>
    intro f1 k hk hf1
    obtain ⟨f1, rfl⟩ : ∃ m, f1 = m + 1 := ⟨f1 - 1, by omega⟩
    have hk2 : k = n - 1 := by omega
    subst hk2
    obtain ⟨l1, l2⟩ := fs_le (b := b) (fun k hk => (h4 k hk).1) (n - 1) (by omega)
    show fl_X12_laysAfter_8 (fb_X12_laysAfter_8 f1) v _ _ _ _ _ = _
    unfold fl_X12_laysAfter_8
    rw [nI_1, if_pos (nI_le (by omega) (by omega)), pk_sub l1, mx_g (by omega) (by omega), bnd1_s, bnd_e, bnd_e, nI_l (by omega), nI_l (by omega)]
    rfl
  | succ d ih =>
    intro f1 k hk hf1
    obtain ⟨f1, rfl⟩ : ∃ m, f1 = m + 1 := ⟨f1 - 1, by omega⟩
    have ih := ih f1 (k + 1) (by omega) (by omega)
    refine Eq.trans ?_ ih
    obtain ⟨g1, g2⟩ := h4 k (by omega)
    show fl_X12_laysAfter_8 (fb_X12_laysAfter_8 f1) v _ _ _ _ _ = _
    unfold fl_X12_laysAfter_8
    rw [nI_1, if_neg (nI_ge (by omega) (by omega)), h5 v hv k (by omega), bnd1_s, h5 v hv (k + 1) (by omega), fc_s, fs_s]
    by_cases e : g k = b
    · rw [if_pos (by rw [e]), bnd_e, bnd1_s, bnd_e, bnd_e, nI_1, nI_add, if_pos e, if_pos e]
    · rw [if_neg (fun q => e ((nI_eq (by omega) (by omega)).mp q)), bnd_e, if_neg e, if_neg e]
      rfl
theorem lays_follow {u : V0} {F : Nat → Int32} {n : Nat} {g : Nat → Nat} (hB : BT u F n g) {v : V12} (hv : v.2.1 = F) : ∃ a b : Nat, a ≤ 400 ∧ b ≤ 400 ∧ f_X0_measureFollow u = some (u.1, u.2.1, u.2.2.1, nI a, nI b) ∧ f_X12_laysFollow v (nI n) = some (sB v (lN a) (lN b)) := by
  have hB0 := hB
  obtain ⟨h1, h2, h3, h4, h5⟩ := hB
  have hg : ∀ k, k < n → g k ≤ 1 := fun k hk => (h4 k hk).1
  have hX := me_follow hB0 (n - 1) FU 0 (by omega) (by show n - 1 < 8589934592; omega)
  have hM0 := me_after hB0 hv (b := 0) (by omega) (n - 1) FU 0 (by omega) (by show n - 1 < 8589934592; omega)
  have hM1 := me_after hB0 (v := sB v (lN (max (fs_ g 0 (n - 1)) (fc_ g 0 (n - 1) - fs_ g 0 (n - 1)))) (lN (fc_ g 0 (n - 1)))) hv (b := 1) (by omega) (n - 1) FU 0 (by omega) (by show n - 1 < 8589934592; omega)
  obtain ⟨l1, l2⟩ := fs_le (b := 0) hg (n - 1) (by omega)
  obtain ⟨l3, l4⟩ := fs_le (b := 1) hg (n - 1) (by omega)
  have hs := fc_sum hg (n - 1) (by omega)
  generalize fs_ g 0 (n - 1) = s0 at *
  generalize fs_ g 1 (n - 1) = s1 at *
  generalize fc_ g 0 (n - 1) = c0 at *
  generalize fc_ g 1 (n - 1) = c1 at *
  have hX' : f_X0_measureFollow u = fc_X0_measureFollow_77 u (nI c1) (nI s1) (nI s0) := hX
  have hM0' : f_X12_laysAfter v (nI n) 0 = some (sB v (lN (max s0 (c0 - s0))) (lN c0)) := hM0
  have hM1' : f_X12_laysAfter (sB v (lN (max s0 (c0 - s0))) (lN c0)) (nI n) 1 = some (sB v (lN (max s1 (c1 - s1))) (lN c1)) := hM1
  unfold f_X12_laysFollow
  rw [hX', hM0', bnd1_s, hM1', bnd1_s]
  unfold fc_X0_measureFollow_77 fc_X12_laysFollow_60 fc_X12_laysFollow_56 fc_X12_laysFollow_61 fc_X12_laysFollow_77
  rw [h1, show nI n - (1 : Int32) = nI (n - 1) from pk_sub (b := 1) (by omega), pk_sub (by omega), show n - 1 - c1 = c0 by omega, bnd_e, pk_sub l3, pk_sub l1, mx_j (by omega) (by omega), mx_j (by omega) (by omega), bnd_e, bnd_e, pk_mul, pk_mul]
  have hx1 : max s1 (c1 - s1) ≤ c1 := by omega
  have hx0 : max s0 (c0 - s0) ≤ c0 := by omega
  generalize max s0 (c0 - s0) = m0 at *
  generalize max s1 (c1 - s1) = m1 at *
  have b1 : m1 * c0 ≤ 400 * 400 := Nat.mul_le_mul (by omega) (by omega)
  have b2 : m0 * c1 ≤ 400 * 400 := Nat.mul_le_mul (by omega) (by omega)
  have q1 : (sB v (lN m1) (lN c1)).2.2.2.2.2.2.2.2.2.2.2.2.2.2.2.2.2.2.2.2.1 = lN c1 := rfl
  have q2 : (sB v (lN m1) (lN c1)).2.2.2.2.2.2.2.2.2.2.2.2.2.2.2.2.2.2.2.1 = lN m1 := rfl
  have q3 : (sB v (lN m0) (lN c0)).2.2.2.2.2.2.2.2.2.2.2.2.2.2.2.2.2.2.2.2.1 = lN c0 := rfl
  have q4 : (sB v (lN m0) (lN c0)).2.2.2.2.2.2.2.2.2.2.2.2.2.2.2.2.2.2.2.1 = lN m0 := rfl
  rw [q1, q2, q3, q4, lN_mul, lN_mul, if_pos rfl, if_pos rfl, if_neg (show ¬ (1 : Int32) = 0 by decide), if_neg (show ¬ (1 : Int32) = 0 by decide)]
  by_cases z1 : c1 = 0
  · by_cases z0 : c0 = 0
    · refine ⟨m1, c1, by omega, by omega, ?_, ?_⟩
      · rw [if_pos (show nI c0 = (0 : Int32) by rw [z0]; rfl)]
      · rw [if_pos (show lN c1 ≤ (0 : Int64) by rw [z1]; decide), show m0 = m1 by omega, show c0 = c1 by omega]
        rfl
    · refine ⟨m0, c0, by omega, by omega, ?_, ?_⟩
      · rw [if_neg (show ¬ nI c0 = (0 : Int32) from fun q => z0 ((nI_eq (b := 0) (by omega) (by decide)).mp q)), if_pos (nI_le (by rw [show m1 = 0 by omega, Nat.zero_mul]; exact Nat.zero_le _) (by omega))]
      · rw [if_pos (show lN c1 ≤ (0 : Int64) by rw [z1]; decide)]
        rfl
  · rw [if_neg (show ¬ lN c1 ≤ (0 : Int64) from fun q => absurd ((lN_le (b := 0) (by omega) (by decide)).mp q) (by omega))]
    by_cases z0 : c0 = 0
    · refine ⟨m1, c1, by omega, by omega, ?_, ?_⟩
      · rw [if_pos (show nI c0 = (0 : Int32) by rw [z0]; rfl)]
      · rw [if_pos (show lN c0 = (0 : Int64) by rw [z0]; rfl)]
        rfl
    · rw [if_neg (show ¬ nI c0 = (0 : Int32) from fun q => z0 ((nI_eq (b := 0) (by omega) (by decide)).mp q)), if_neg (show ¬ lN c0 = (0 : Int64) from fun q => z0 ((lN_eq (b := 0) (by omega) (by decide)).mp q))]
      by_cases e : m1 * c0 ≤ m0 * c1
      · refine ⟨m0, c0, by omega, by omega, ?_, ?_⟩
        · rw [if_pos (nI_le e (by omega))]
        · rw [if_pos ((lN_le (by omega) (by omega)).mpr e)]
          rfl
      · refine ⟨m1, c1, by omega, by omega, ?_, ?_⟩
        · rw [if_neg (nI_ge (by omega) (by omega))]
        · rw [if_neg (fun q => e ((lN_le (by omega) (by omega)).mp q))]
          rfl
theorem measure_rel {u : V0} {F : Nat → Int32} {n : Nat} {g : Nat → Nat} (hB : BT u F n g) {v : V12} (hv : v.2.1 = F) {p : Nat} (hp : p < 3) : ∃ a b : Nat, a ≤ 400 ∧ b ≤ 400 ∧ f_X0_measure u (nI p) = some (u.1, u.2.1, u.2.2.1, nI a, nI b) ∧ f_X12_laysBound v (nI p) (nI n) = some (sB v (lN a) (lN b)) := by
  have h3 := hB.2.2.1
  unfold f_X0_measure f_X12_laysBound
  have hp3 : p = 0 ∨ p = 1 ∨ p = 2 := by omega
  rcases hp3 with e | e | e <;> subst e
  · obtain ⟨r, r1, r2, r3⟩ := me_common hB hv n FU FU 0 0 (by omega) (by show n < 8589934592; omega) (by show n < 8589934592; omega) (by omega)
    have r2' : f_X0_measureCommon u = some (u.1, u.2.1, u.2.2.1, nI r, nI n) := r2
    have r3' : f_X12_common v (nI n) = some (nI r) := r3
    refine ⟨r, n, r1, h3, ?_, ?_⟩
    · rw [if_pos (by decide), r2', bnd1_s]
    · rw [if_pos (by decide), r3', bnd1_s, bnd_e, bnd_e, nI_l (by omega), nI_l (by omega)]
      rfl
  · obtain ⟨a2, b2, r1, r2, r3, r4⟩ := me_coll hB hv (n + 1) FU FU 0 0 0 (by omega) (by show n + 1 + 1 < 8589934592; omega) (by show n + 1 < 8589934592; omega) (by omega) (by omega) (by omega)
    have r3' : f_X0_measureCollision u = some (u.1, u.2.1, u.2.2.1, nI a2, nI b2) := r3
    have r4' : f_X12_laysCollision v (nI n) = some (sB v (lN a2) (lN b2)) := r4
    refine ⟨a2, b2, r1, r2, ?_, ?_⟩
    · rw [if_neg (by decide), if_pos (by decide), r3', bnd1_s]
    · rw [if_neg (by decide), if_pos (by decide), r4', bnd1_s]
  · obtain ⟨a2, b2, r1, r2, r3, r4⟩ := lays_follow hB hv
    refine ⟨a2, b2, r1, r2, ?_, ?_⟩
    · rw [if_neg (by decide), if_neg (by decide), r3, bnd1_s]
    · rw [if_neg (by decide), if_neg (by decide), r4, bnd1_s]
end ME
