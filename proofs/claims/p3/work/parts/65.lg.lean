section LG
/-- how many are alike at a lag, from k on -/
def alc (g : Nat → Nat) (l : Nat) : Nat → Nat → Nat → Nat
  | 0, _, a => a
  | d + 1, k, a => alc g l d (k + 1) (if g k = g (k - l) then a + 1 else a)
theorem alc_le (g : Nat → Nat) (l : Nat) : ∀ d k a, alc g l d k a ≤ a + d
  | 0, _, _ => Nat.le_refl _
  | d + 1, k, a => by
    have ih := alc_le g l d (k + 1) (if g k = g (k - l) then a + 1 else a)
    show alc g l d (k + 1) (if g k = g (k - l) then a + 1 else a) ≤ a + (d + 1)
    by_cases h : g k = g (k - l)
    · rw [if_pos h] at ih ⊢; omega
    · rw [if_neg h] at ih ⊢; omega
theorem x_alike {u : V0} {F : Nat → Int32} {n : Nat} {g : Nat → Nat} (hB : BT u F n g) {l : Nat} (hl : 1 ≤ l) : ∀ (d fu k a : Nat), k + d = n → l ≤ k → d < fu → fb_X0_alikeAt_11 u fu (nI l) (nI a) (nI k) = some (nI (alc g l d k a)) := by
  obtain ⟨h1, h2, h3, h4, h5⟩ := hB
  intro d
  induction d with
  | zero =>
    intro fu k a hk hlk hf
    obtain ⟨fu, rfl⟩ : ∃ m, fu = m + 1 := ⟨fu - 1, by omega⟩
    show fl_X0_alikeAt_11 u (fb_X0_alikeAt_11 u fu) _ _ _ = _
    unfold fl_X0_alikeAt_11
    rw [h1, if_pos (nI_le (by omega) (by omega))]
    rfl
  | succ d ih =>
    intro fu k a hk hlk hf
    obtain ⟨fu, rfl⟩ : ∃ m, fu = m + 1 := ⟨fu - 1, by omega⟩
    obtain ⟨g1, g2⟩ := h4 k (by omega)
    obtain ⟨g3, g4⟩ := h4 (k - l) (by omega)
    have ih := ih fu (k + 1) (if g k = g (k - l) then a + 1 else a) (by omega) (by omega) (by omega)
    refine Eq.trans ?_ ih
    show fl_X0_alikeAt_11 u (fb_X0_alikeAt_11 u fu) _ _ _ = _
    unfold fl_X0_alikeAt_11
    rw [h1, if_neg (nI_ge (by omega) (by omega)), if_neg (n400 (by omega)), pk_sub hlk, chk_nI (by omega) (by decide), chk_nI (by omega) (by decide), nI_clamp (by omega), nI_clamp (by omega)]
    by_cases e : g k = g (k - l)
    · rw [if_pos (show u.1 k = u.1 (k - l) by rw [g2, g4, e]), if_pos e, bnd_e, bnd_e, nI_1, nI_1]
    · rw [if_neg (show ¬ u.1 k = u.1 (k - l) by rw [g2, g4]; exact fun q => e ((nI_eq (by omega) (by omega)).mp q)), if_neg e, bnd_e, nI_1]
theorem m_lagged {u : V0} {F : Nat → Int32} {n : Nat} {g : Nat → Nat} (hB : BT u F n g) {v : V12} (hv : v.2.1 = F) {l : Nat} (hl : 1 ≤ l) : ∀ (d fu k a : Nat), k + d = n → l ≤ k → d < fu → fb_X12_lagged_5 v fu (nI n) (nI l) (nI a) (nI k) = some (nI (alc g l d k a)) := by
  obtain ⟨h1, h2, h3, h4, h5⟩ := hB
  intro d
  induction d with
  | zero =>
    intro fu k a hk hlk hf
    obtain ⟨fu, rfl⟩ : ∃ m, fu = m + 1 := ⟨fu - 1, by omega⟩
    show fl_X12_lagged_5 v (fb_X12_lagged_5 v fu) _ _ _ _ = _
    unfold fl_X12_lagged_5
    rw [if_pos (nI_le (by omega) (by omega))]
    rfl
  | succ d ih =>
    intro fu k a hk hlk hf
    obtain ⟨fu, rfl⟩ : ∃ m, fu = m + 1 := ⟨fu - 1, by omega⟩
    obtain ⟨g1, g2⟩ := h4 k (by omega)
    obtain ⟨g3, g4⟩ := h4 (k - l) (by omega)
    have ih := ih fu (k + 1) (if g k = g (k - l) then a + 1 else a) (by omega) (by omega) (by omega)
    refine Eq.trans ?_ ih
    show fl_X12_lagged_5 v (fb_X12_lagged_5 v fu) _ _ _ _ = _
    unfold fl_X12_lagged_5
    rw [if_neg (nI_ge (by omega) (by omega)), pk_sub hlk, h5 v hv k (by omega), bnd1_s, h5 v hv (k - l) (by omega), bnd1_s]
    by_cases e : g k = g (k - l)
    · rw [if_pos (by rw [e]), if_pos e, bnd_e, bnd_e, nI_1, nI_1]
    · rw [if_neg (fun q => e ((nI_eq (by omega) (by omega)).mp q)), if_neg e, bnd_e, bnd_e, nI_1, Int32.add_zero]
def alk (g : Nat → Nat) (n l : Nat) : Nat := alc g l (n - l) l 0
theorem alk_le (g : Nat → Nat) (n l : Nat) : alk g n l ≤ n := by
  have := alc_le g l (n - l) l 0
  unfold alk
  omega
theorem al_x {u : V0} {F : Nat → Int32} {n : Nat} {g : Nat → Nat} (hB : BT u F n g) {l : Nat} (hl : 1 ≤ l) (hln : l ≤ n) : f_X0_alikeAt u (nI l) = some (nI (alk g n l)) := by
  have h3 := hB.2.2.1
  unfold f_X0_alikeAt
  rw [if_pos (show (1 : Int32) ≤ nI l from nI_le (a := 1) hl (by omega))]
  exact x_alike hB hl (n - l) FU l 0 (by omega) (by omega) (by show n - l < 8589934592; omega)
theorem al_m {u : V0} {F : Nat → Int32} {n : Nat} {g : Nat → Nat} (hB : BT u F n g) {v : V12} (hv : v.2.1 = F) {l : Nat} (hl : 1 ≤ l) (hln : l ≤ n) : f_X12_lagged v (nI n) (nI l) = some (nI (alk g n l)) := by
  have h3 := hB.2.2.1
  exact m_lagged hB hv hl (n - l) FU l 0 (by omega) (by omega) (by show n - l < 8589934592; omega)
theorem is_there {v : V12} {H n m : Nat} (hH : H ≤ 400) (h3 : v.2.1 300 = nI H) (hm : m ≤ n) (hn : n ≤ H) : f_X12_isThere v (nI n) (nI m) = some 1 := by
  unfold f_X12_isThere f_X12_in
  rw [chk_in (show vp_in (300 : Int32) 4725 by unfold vp_in; decide), show ((300 : Int32)).toNatClampNeg = 300 from rfl, h3, if_neg (nI_nlt hm (by omega)), if_neg (nI_nlt hn (by omega)), bnd1_s, chkbo1]
theorem q_lag {v0 : V11} {v : V12} (hQ : RQ 300 301 400 v0.1.2.2.2.2.2.1 v.2.1) (p1 p2 : Int32) : ∃ (r : Int32) (u : V11) (v2 : V12), u.1 = v0.1 ∧ f_X11_lag v0 p1 p2 = some (r, u) ∧ f_X12_lag v p1 p2 = some (r, v2) ∧ SM v v2 := by
  have hx : (f_X11_loadLatest v0 p1 (2 : Int32) = some (0, v0)) → ∃ u : V11, u.1 = v0.1 ∧ f_X11_lag v0 p1 p2 = some (-1, u) := by
    intro h
    unfold f_X11_lag
    by_cases c1 : p2 < 1
    · exact ⟨v0, rfl, by rw [if_pos c1]⟩
    · rw [if_neg c1]
      by_cases c2 : 32 < p2
      · exact ⟨v0, rfl, by rw [if_pos c2]⟩
      · rw [if_neg c2]
        by_cases c3 : p1 ≤ p2
        · exact ⟨v0, rfl, by rw [if_pos c3]⟩
        · rw [if_neg c3, h, bnd2_s, if_pos rfl]
          exact ⟨(v0.1, v0.2.1, v0.2.2.1, v0.2.2.2.1, v0.2.2.2.2.1, v0.2.2.2.2.2.1, v0.2.2.2.2.2.2.1, v0.2.2.2.2.2.2.2), rfl, rfl⟩
  rcases there_rel (v := (0, v.2)) hQ p1 (m := 1) (Or.inl rfl) with ⟨s1, s2⟩ | ⟨n, H, u1, e, s1, s2, s3, s4⟩
  · have hM : f_X12_lag v p1 p2 = some (-1, (0, v.2)) := by
      unfold f_X12_lag
      rw [show f_X12_isThere ((0 : Int32), v.2) p1 (1 : Int32) = _ from s2, bnd1_s, if_pos rfl]
    rcases there_rel (v := (0, v.2)) hQ p1 (m := 2) (Or.inr rfl) with ⟨t1, t2⟩ | ⟨n, H, u, e, t1, t2, t3, t4⟩
    · obtain ⟨u, u1, u2⟩ := hx t1
      exact ⟨-1, u, (0, v.2), u1, u2, hM, rfl, rfl, rfl⟩
    · obtain ⟨-, -, d3, d4, d5, -⟩ := t2
      rw [e, is_there (v := (0, v.2)) d4 d5 (by omega) d3] at s2
      exact absurd s2 (by decide)
  · subst e
    obtain ⟨-, -, d3, d4, d5, -⟩ := s2
    have hM : f_X12_lag v (nI n) p2 = bnd1 (f_X12_in p2 1 (nI (min 32 (n - 1)))) fun r_3 => if r_3 = (0 : Int32) then (some (((-1 : Int32), ((0 : Int32), v.2)))) else (bnd1 (f_X12_lagged (((0 : Int32), v.2)) (nI n) p2) fun r_4 => some ((r_4, ((0 : Int32), v.2)))) := by
      unfold f_X12_lag f_X12_lesser
      rw [show f_X12_isThere ((0 : Int32), v.2) (nI n) (1 : Int32) = _ from s4, bnd1_s, if_neg (by decide), show nI n - (1 : Int32) = nI (n - 1) from pk_sub (b := 1) s1]
      by_cases h : n - 1 ≤ 32
      · rw [if_pos (show nI (n - 1) ≤ (32 : Int32) from nI_le (b := 32) h (by decide)), bnd1_s, Nat.min_eq_right h]
      · rw [if_neg (show ¬ nI (n - 1) ≤ (32 : Int32) from nI_ge (a := 32) (by omega) (by omega)), bnd1_s, Nat.min_eq_left (by omega)]
        rfl
    rcases there_rel (v := (0, v.2)) hQ (nI n) (m := 2) (Or.inr rfl) with ⟨t1, t2⟩ | ⟨n2, H2, u, e, t1, t2, t3, t4⟩
    · obtain ⟨u, u1, u2⟩ := hx t1
      have h1 : n = 1 := by
        by_cases h : 2 ≤ n
        · rw [is_there (v := (0, v.2)) d4 d5 h d3] at t2
          exact absurd t2 (by decide)
        · omega
      refine ⟨-1, u, (0, v.2), u1, u2, ?_, rfl, rfl, rfl⟩
      rw [hM, h1]
      have hi : f_X12_in p2 1 (nI (min 32 (1 - 1))) = some 0 := by
        unfold f_X12_in
        by_cases c1 : p2 < 1
        · rw [if_pos c1]
        · rw [if_neg c1, if_pos]
          rw [Int32.lt_iff_toInt_lt] at c1 ⊢
          rw [show (1 : Int32).toInt = 1 from rfl] at c1
          rw [show (nI (min 32 (1 - 1))).toInt = 0 from rfl]
          omega
      rw [hi, bnd1_s, if_pos rfl]
    · have en : n = n2 := (nI_eq (by omega) (by have := t2.2.2.1; have := t2.2.2.2.1; omega)).mp e
      subst en
      obtain ⟨g, hB⟩ := t2.bt
      rw [hM]
      unfold f_X11_lag
      by_cases c1 : p2 < 1
      · refine ⟨-1, v0, (0, v.2), rfl, by rw [if_pos c1], ?_, rfl, rfl, rfl⟩
        unfold f_X12_in
        rw [if_pos c1, bnd1_s, if_pos rfl]
      · have h0 : ¬ p2 < 0 := fun q => c1 (by
          rw [Int32.lt_iff_toInt_lt] at q ⊢
          rw [show (0 : Int32).toInt = 0 from rfl] at q
          rw [show (1 : Int32).toInt = 1 from rfl]
          omega)
        obtain ⟨l, hl, el⟩ := nI_of h0
        subst el
        have hl1 : 1 ≤ l := Nat.le_of_not_lt (fun q => c1 (nI_lt (b := 1) q (by decide)))
        have i2 : f_X12_in (nI l) 1 (nI (min 32 (n - 1))) = some (if (decide (1 ≤ l) && decide (l ≤ min 32 (n - 1))) = true then 1 else 0) := m_in2 (a := 1) (b := min 32 (n - 1)) (by decide) (by omega) hl
        rw [if_neg c1, i2, bnd1_s]
        by_cases c2 : l ≤ min 32 (n - 1)
        · rw [if_neg (show ¬ (32 : Int32) < nI l from nI_nlt (a := 32) (by omega) (by decide)), if_neg (nI_ge (by omega) (by omega)), show f_X11_loadLatest v0 (nI n) (2 : Int32) = _ from t3, bnd2_s, if_neg (show ¬ (1 : Int32) = 0 by decide), if_neg (by rw [if_pos (in_dec ⟨hl1, c2⟩)]; decide)]
          dsimp only
          rw [al_x hB hl1 (by omega), bnd1_s, al_m hB (v := (0, v.2)) rfl hl1 (by omega), bnd1_s]
          exact ⟨nI (alk g n l), (v0.1, v0.2.1, v0.2.2.1, v0.2.2.2.1, u, v0.2.2.2.2.2.1, v0.2.2.2.2.2.2.1, v0.2.2.2.2.2.2.2), (0, v.2), rfl, rfl, rfl, rfl, rfl, rfl⟩
        · refine ⟨-1, v0, (0, v.2), rfl, ?_, if_pos (by rw [if_neg (in_ndec (by omega))]), rfl, rfl, rfl⟩
          by_cases c3 : 32 < l
          · rw [if_pos (show (32 : Int32) < nI l from nI_lt (a := 32) c3 hl)]
          · rw [if_neg (show ¬ (32 : Int32) < nI l from nI_nlt (a := 32) (by omega) (by decide)), if_pos (nI_le (by omega) (by omega))]
theorem echo_loop {u : V0} {F : Nat → Int32} {n : Nat} {g : Nat → Nat} (hB : BT u F n g) {v0 : V11} (hu : v0.2.2.2.2.1 = u) {v : V12} (hv : v.2.1 = F) : ∀ (d f1 f2 k x2 : Nat), k + d = 33 → 2 ≤ k → 1 ≤ x2 → x2 < k → x2 ≤ n → d < f1 → d < f2 → ∃ r : Int32, fb_X11_echo_25 f1 v0 (nI n) (nI x2) (nI (alk g n x2)) (nI k) = some (r, v0) ∧ fb_X12_echo_20 f2 v (nI n) (nI x2) (nI k) = some (r, v) := by
  have h3 := hB.2.2.1
  intro d
  induction d with
  | zero =>
    intro f1 f2 k x2 hk h2 hx1 hx2 hxn hf1 hf2
    obtain ⟨f1, rfl⟩ : ∃ m, f1 = m + 1 := ⟨f1 - 1, by omega⟩
    obtain ⟨f2, rfl⟩ : ∃ m, f2 = m + 1 := ⟨f2 - 1, by omega⟩
    have hk : k = 33 := by omega
    subst hk
    refine ⟨nI x2, ?_, ?_⟩
    · show fl_X11_echo_25 (fb_X11_echo_25 f1) _ _ _ _ _ = _
      unfold fl_X11_echo_25
      rw [if_pos (by decide)]
    · show fl_X12_echo_20 (fb_X12_echo_20 f2) _ _ _ _ = _
      unfold fl_X12_echo_20
      rw [if_pos (by decide)]
  | succ d ih =>
    intro f1 f2 k x2 hk h2 hx1 hx2 hxn hf1 hf2
    obtain ⟨f1, rfl⟩ : ∃ m, f1 = m + 1 := ⟨f1 - 1, by omega⟩
    obtain ⟨f2, rfl⟩ : ∃ m, f2 = m + 1 := ⟨f2 - 1, by omega⟩
    show ∃ r : Int32, fl_X11_echo_25 (fb_X11_echo_25 f1) v0 (nI n) (nI x2) (nI (alk g n x2)) (nI k) = some (r, v0) ∧ fl_X12_echo_20 (fb_X12_echo_20 f2) v (nI n) (nI x2) (nI k) = some (r, v)
    unfold fl_X11_echo_25 fl_X12_echo_20
    have h32 : ¬ (32 : Int32) < nI k := nI_nlt (a := 32) (by omega) (by decide)
    rw [if_neg h32, if_neg h32]
    by_cases hn : n ≤ k
    · rw [if_pos (nI_le hn (by omega)), if_pos (nI_le hn (by omega))]
      exact ⟨_, rfl, rfl⟩
    · have a1 := alk_le g n k
      have a2 := alk_le g n x2
      have z1 : alk g n k * (n - x2) ≤ 400 * 400 := Nat.mul_le_mul (by omega) (by omega)
      have z2 : alk g n x2 * (n - k) ≤ 400 * 400 := Nat.mul_le_mul (by omega) (by omega)
      rw [if_neg (nI_ge (by omega) (by omega)), if_neg (nI_ge (by omega) (by omega)), hu, al_x hB (by omega) (by omega), bnd1_s, al_m hB hv (by omega) (by omega), bnd1_s, al_m hB hv hx1 hxn, bnd1_s, pk_sub hxn, pk_sub (by omega), pk_mul, pk_mul]
      by_cases c : alk g n k * (n - x2) ≤ alk g n x2 * (n - k)
      · rw [if_pos (nI_le c (by omega)), if_pos (nI_le c (by omega)), bnd_e, bnd_e, nI_1]
        exact ih f1 f2 (k + 1) x2 (by omega) (by omega) hx1 (by omega) hxn (by omega) (by omega)
      · rw [if_neg (nI_ge (by omega) (by omega)), if_neg (nI_ge (by omega) (by omega)), bnd_e, bnd_e, nI_1]
        exact ih f1 f2 (k + 1) k (by omega) (by omega) (by omega) (by omega) (by omega) (by omega) (by omega)
theorem q_echo {v0 : V11} {v : V12} (hQ : RQ 300 301 400 v0.1.2.2.2.2.2.1 v.2.1) (p : Int32) : ∃ (r : Int32) (u : V11) (v2 : V12), u.1 = v0.1 ∧ f_X11_echo v0 p = some (r, u) ∧ f_X12_echo v p = some (r, v2) ∧ SM v v2 := by
  unfold f_X11_echo f_X12_echo
  rcases there_rel (v := (0, v.2)) hQ p (m := 2) (Or.inr rfl) with ⟨t1, t2⟩ | ⟨n, H, u, e, t1, t2, t3, t4⟩
  · rw [show f_X11_loadLatest v0 p (2 : Int32) = _ from t1, bnd2_s, if_pos rfl, show f_X12_isThere ((0 : Int32), v.2) p (2 : Int32) = _ from t2, bnd1_s, if_pos rfl]
    exact ⟨-1, (v0.1, v0.2.1, v0.2.2.1, v0.2.2.2.1, v0.2.2.2.2.1, v0.2.2.2.2.2.1, v0.2.2.2.2.2.2.1, v0.2.2.2.2.2.2.2), (0, v.2), rfl, rfl, rfl, rfl, rfl, rfl⟩
  · rw [show f_X11_loadLatest v0 p (2 : Int32) = _ from t3, bnd2_s, if_neg (show ¬ (1 : Int32) = 0 by decide), show f_X12_isThere ((0 : Int32), v.2) p (2 : Int32) = _ from t4, bnd1_s, if_neg (show ¬ (1 : Int32) = 0 by decide), e]
    obtain ⟨g, hB⟩ := t2.bt
    dsimp only
    rw [show f_X0_alikeAt u (1 : Int32) = _ from al_x hB (l := 1) (by omega) (by omega), bnd1_s]
    obtain ⟨r, r1, r2⟩ := echo_loop hB (v0 := (v0.1, v0.2.1, v0.2.2.1, v0.2.2.2.1, u, v0.2.2.2.2.2.1, v0.2.2.2.2.2.2.1, v0.2.2.2.2.2.2.2)) rfl (v := (0, v.2)) rfl 31 FU FU 2 1 (by omega) (by omega) (by omega) (by omega) (by omega) (by decide) (by decide)
    exact ⟨r, (v0.1, v0.2.1, v0.2.2.1, v0.2.2.2.1, u, v0.2.2.2.2.2.1, v0.2.2.2.2.2.2.1, v0.2.2.2.2.2.2.2), (0, v.2), rfl, r1, r2, rfl, rfl, rfl⟩
end LG
