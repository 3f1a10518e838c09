section TU
/-- the reference with other counts -/
def sC (v : V12) (D : Nat → Int32) : V12 := (v.1, v.2.1, v.2.2.1, v.2.2.2.1, v.2.2.2.2.1, v.2.2.2.2.2.1, v.2.2.2.2.2.2.1, v.2.2.2.2.2.2.2.1, v.2.2.2.2.2.2.2.2.1, v.2.2.2.2.2.2.2.2.2.1, v.2.2.2.2.2.2.2.2.2.2.1, v.2.2.2.2.2.2.2.2.2.2.2.1, v.2.2.2.2.2.2.2.2.2.2.2.2.1, v.2.2.2.2.2.2.2.2.2.2.2.2.2.1, v.2.2.2.2.2.2.2.2.2.2.2.2.2.2.1, v.2.2.2.2.2.2.2.2.2.2.2.2.2.2.2.1, v.2.2.2.2.2.2.2.2.2.2.2.2.2.2.2.2.1, v.2.2.2.2.2.2.2.2.2.2.2.2.2.2.2.2.2.1, v.2.2.2.2.2.2.2.2.2.2.2.2.2.2.2.2.2.2.1, v.2.2.2.2.2.2.2.2.2.2.2.2.2.2.2.2.2.2.2.1, v.2.2.2.2.2.2.2.2.2.2.2.2.2.2.2.2.2.2.2.2.1, D)
/-- bits as a number -/
def bvs (g : Nat → Nat) : Nat → Nat → Nat → Nat
  | 0, _, a => a
  | d + 1, j, a => bvs g d (j + 1) (2 * a + g j)
theorem bvs_app (g : Nat → Nat) (e_ : Nat) : ∀ d j a, bvs g (d + e_) j a = bvs g e_ (j + d) (bvs g d j a)
  | 0, j, a => by rw [Nat.zero_add, Nat.add_zero]; rfl
  | d + 1, j, a => by
    rw [show d + 1 + e_ = (d + e_) + 1 by omega]
    show bvs g (d + e_) (j + 1) (2 * a + g j) = bvs g e_ (j + (d + 1)) (bvs g d (j + 1) (2 * a + g j))
    rw [bvs_app g e_ d (j + 1) (2 * a + g j), show j + 1 + d = j + (d + 1) by omega]
theorem bvs_add (g : Nat → Nat) : ∀ d j a, bvs g d j a = a * 2 ^ d + bvs g d j 0
  | 0, j, a => by show a = a * 1 + 0; omega
  | d + 1, j, a => by
    show bvs g d (j + 1) (2 * a + g j) = a * 2 ^ (d + 1) + bvs g d (j + 1) (2 * 0 + g j)
    rw [bvs_add g d (j + 1) (2 * a + g j), bvs_add g d (j + 1) (2 * 0 + g j), Nat.pow_succ, Nat.add_mul, Nat.add_mul, Nat.mul_zero, Nat.zero_mul, Nat.zero_add, Nat.mul_comm 2 a, Nat.mul_assoc, Nat.mul_comm 2 (2 ^ d), Nat.add_assoc]
theorem bvs_lt {g : Nat → Nat} : ∀ d j, (∀ i, i < d → g (j + i) ≤ 1) → bvs g d j 0 < 2 ^ d
  | 0, j, _ => by show 0 < 1; omega
  | d + 1, j, h => by
    show bvs g d (j + 1) (2 * 0 + g j) < 2 ^ (d + 1)
    have h1 := bvs_lt d (j + 1) (fun i hi => by rw [show j + 1 + i = j + (i + 1) by omega]; exact h (i + 1) (by omega))
    have h2 := h 0 (by omega)
    rw [Nat.add_zero] at h2
    rw [bvs_add g d (j + 1) (2 * 0 + g j), Nat.pow_succ]
    have : (2 * 0 + g j) * 2 ^ d ≤ 1 * 2 ^ d := Nat.mul_le_mul_right _ (by omega)
    omega
theorem bvs_1 (g : Nat → Nat) (k : Nat) : bvs g (k + 1) 0 0 = 2 * bvs g k 0 0 + g k := by
  rw [bvs_app g 1 k 0 0, Nat.zero_add]
  rfl
theorem bvs_mod {g : Nat → Nat} (l k : Nat) : (2 * (bvs g k 0 0 % 2 ^ l) + g k) % 2 ^ l = bvs g (k + 1) 0 0 % 2 ^ l := by
  rw [bvs_1, ← Nat.mod_add_mod (2 * (bvs g k 0 0 % 2 ^ l)), Nat.mul_mod_mod, Nat.mod_add_mod]
theorem bvs_win {g : Nat → Nat} {l j : Nat} (h : ∀ i, i < l → g (j + i) ≤ 1) : bvs g (j + l) 0 0 % 2 ^ l = bvs g l j 0 := by
  rw [bvs_app g l j 0 0, Nat.zero_add, bvs_add g l j (bvs g j 0 0), Nat.mul_comm, Nat.mul_add_mod, Nat.mod_eq_of_lt (bvs_lt l j h)]
theorem st_ev : ∀ l, l < 9 → ∀ X, X < 256 → ∀ b, b < 2 → X < 2 ^ l → (((nI X <<< ((1 : Int32) &&& 31)) ||| nI b) &&& nI (2 ^ l - 1)) = nI ((2 * X + b) % 2 ^ l) := by decide +kernel
theorem mk_ev : ∀ l, l < 9 → ((((1 : Int32) <<< (nI l &&& 31)) - (1 : Int32)) &&& (255 : Int32)) = nI (2 ^ l - 1) := by decide +kernel
theorem x_fill0 : ∀ (d fu k : Nat) (C : Nat → Int32), k + d = 256 → d < fu → ∃ C2 : Nat → Int32, fb_J7_fill_53178_5 256 fu C 0 (nI k) (nI 256) = some C2 ∧ (∀ j, k ≤ j → j < 256 → C2 j = 0) ∧ ∀ j, j < k → C2 j = C j := by
  intro d
  induction d with
  | zero =>
    intro fu k C hk hf
    obtain ⟨fu, rfl⟩ : ∃ m, fu = m + 1 := ⟨fu - 1, by omega⟩
    refine ⟨C, ?_, fun j h1 h2 => absurd h1 (by omega), fun j _ => rfl⟩
    show fl_J7_fill_53178_5 256 (fb_J7_fill_53178_5 256 fu) _ _ _ _ = _
    unfold fl_J7_fill_53178_5
    rw [if_pos (nI_le (by omega) (by omega))]
  | succ d ih =>
    intro fu k C hk hf
    obtain ⟨fu, rfl⟩ : ∃ m, fu = m + 1 := ⟨fu - 1, by omega⟩
    obtain ⟨C2, i1, i2, i3⟩ := ih fu (k + 1) (upd C k 0) (by omega) (by omega)
    refine ⟨C2, ?_, fun j h1 h2 => ?_, fun j hj => by rw [i3 j (by omega), upd_n (by omega)]⟩
    · refine Eq.trans ?_ i1
      show fl_J7_fill_53178_5 256 (fb_J7_fill_53178_5 256 fu) _ _ _ _ = _
      unfold fl_J7_fill_53178_5
      rw [if_neg (nI_ge (by omega) (by omega)), chk_nI (by omega) (by decide), bnd_e, bnd_e, nI_1, nI_clamp (by omega)]
    · by_cases e : j = k
      · subst e; rw [i3 j (by omega), upd_s]
      · exact i2 j (by omega) h2
theorem m_zero (n l : Int32) : ∀ (d fu k : Nat) (v : V12) (D : Nat → Int32), k + d = 256 → d < fu → (∀ j, j < k → D j = 0) → ∃ D2 : Nat → Int32, fb_X12_mostTuple_2 fu (sC v D) n l (nI k) = fb_X12_mostTuple_27 FU (sC v D2) n l 0 0 ∧ ∀ j, j < 256 → D2 j = 0 := by
  intro d
  induction d with
  | zero =>
    intro fu k v D hk hf h0
    obtain ⟨fu, rfl⟩ : ∃ m, fu = m + 1 := ⟨fu - 1, by omega⟩
    refine ⟨D, ?_, fun j hj => h0 j (by omega)⟩
    show fl_X12_mostTuple_2 (fb_X12_mostTuple_2 fu) _ _ _ _ = _
    unfold fl_X12_mostTuple_2
    rw [if_pos (show (256 : Int32) ≤ nI k from nI_le (a := 256) (by omega) (by omega))]
  | succ d ih =>
    intro fu k v D hk hf h0
    obtain ⟨fu, rfl⟩ : ∃ m, fu = m + 1 := ⟨fu - 1, by omega⟩
    obtain ⟨D2, i1, i2⟩ := ih fu (k + 1) v (upd D k 0) (by omega) (by omega) (fun j hj => by
      by_cases e : j = k
      · rw [e]; exact upd_s _ _ _
      · rw [upd_n e]; exact h0 j (by omega))
    refine ⟨D2, ?_, i2⟩
    refine Eq.trans ?_ i1
    show fl_X12_mostTuple_2 (fb_X12_mostTuple_2 fu) _ _ _ _ = _
    unfold fl_X12_mostTuple_2
    rw [if_neg (show ¬ (256 : Int32) ≤ nI k from nI_ge (b := 256) (by omega) (by decide)), chk_nI (by omega) (by decide), bnd_e, bnd_e, nI_1, nI_clamp (by omega)]
    rfl
theorem tu_inner (k27 : V12 → Int32 → Int32 → Int32 → Int32 → Option (Int32 × V12)) {u : V0} {F : Nat → Int32} {n : Nat} {g : Nat → Nat} (hB : BT u F n g) {w : V12} (hw : w.2.1 = F) {j l : Nat} (hj : j + l ≤ n) (x3 : Int32) : ∀ (d fu i a : Nat), i + d = l → d < fu → fb_X12_mostTuple_41 k27 fu w (nI n) (nI l) x3 (nI j) (nI a) (nI i) = fb_X12_mostTuple_41 k27 1 w (nI n) (nI l) x3 (nI j) (nI (bvs g d (j + i) a)) (nI l) := by
  obtain ⟨h1, h2, h3, h4, h5⟩ := hB
  intro d
  induction d with
  | zero =>
    intro fu i a hi hf
    obtain ⟨fu, rfl⟩ : ∃ m, fu = m + 1 := ⟨fu - 1, by omega⟩
    have hi : i = l := by omega
    subst hi
    show fl_X12_mostTuple_41 k27 (fb_X12_mostTuple_41 k27 fu) _ _ _ _ _ _ _ = fl_X12_mostTuple_41 k27 (fb_X12_mostTuple_41 k27 0) _ _ _ _ _ _ _
    unfold fl_X12_mostTuple_41
    rw [if_pos (nI_le (Nat.le_refl _) (by omega)), if_pos (nI_le (Nat.le_refl _) (by omega))]
    rfl
  | succ d ih =>
    intro fu i a hi hf
    obtain ⟨fu, rfl⟩ : ∃ m, fu = m + 1 := ⟨fu - 1, by omega⟩
    have ih := ih fu (i + 1) (2 * a + g (j + i)) (by omega) (by omega)
    refine Eq.trans ?_ ih
    show fl_X12_mostTuple_41 k27 (fb_X12_mostTuple_41 k27 fu) _ _ _ _ _ _ _ = _
    unfold fl_X12_mostTuple_41
    rw [if_neg (nI_ge (by omega) (by omega)), nI_add, h5 w hw (j + i) (by omega), bnd1_s, show (2 : Int32) * nI a = nI (2 * a) from pk_mul 2 a, nI_add, bnd_e, bnd_e, nI_1]
theorem tu_loop {u : V0} {F : Nat → Int32} {n : Nat} {g : Nat → Nat} (hB : BT u F n g) {v : V12} (hv : v.2.1 = F) {l : Nat} (hl1 : 1 ≤ l) (hl8 : l ≤ 8) (hln : l ≤ n) : ∀ (d f1 f2 j bm : Nat) (C D : Nat → Int32) (c : Nat → Nat), j + d = n - l + 1 → d < f1 → d < f2 → (∀ x, x < 256 → C x = nI (c x) ∧ D x = nI (c x) ∧ c x ≤ j) → bm ≤ j → ∃ (r : Nat) (C2 D2 : Nat → Int32), r ≤ 400 ∧ fb_X0_mostOften_26 f1 (u.1, C, u.2.2) (nI l) (nI (2 ^ l - 1)) (nI (bvs g (l - 1 + j) 0 0 % 2 ^ l)) (nI bm) (nI (l - 1 + j)) = some (nI r, (u.1, C2, u.2.2)) ∧ fb_X12_mostTuple_27 f2 (sC v D) (nI n) (nI l) (nI bm) (nI j) = some (nI r, sC v D2) := by
  have hB0 := hB
  obtain ⟨h1, h2, h3, h4, h5⟩ := hB
  have hp : 2 ^ l ≤ 2 ^ 8 := Nat.pow_le_pow_right (by decide) hl8
  have hp0 : 0 < 2 ^ l := Nat.pow_pos (by decide)
  intro d
  induction d with
  | zero =>
    intro f1 f2 j bm C D c hj hf1 hf2 hc hbm
    obtain ⟨f1, rfl⟩ : ∃ m, f1 = m + 1 := ⟨f1 - 1, by omega⟩
    obtain ⟨f2, rfl⟩ : ∃ m, f2 = m + 1 := ⟨f2 - 1, by omega⟩
    refine ⟨bm, C, D, by omega, ?_, ?_⟩
    · show fl_X0_mostOften_26 (fb_X0_mostOften_26 f1) _ _ _ _ _ _ = _
      unfold fl_X0_mostOften_26
      dsimp only
      rw [h1, if_pos (nI_le (by omega) (by omega))]
    · show fl_X12_mostTuple_27 (fb_X12_mostTuple_27 f2) _ _ _ _ _ = _
      unfold fl_X12_mostTuple_27
      rw [nI_add, if_pos (nI_lt (by omega) (by omega))]
  | succ d ih =>
    intro f1 f2 j bm C D c hj hf1 hf2 hc hbm
    obtain ⟨f1, rfl⟩ : ∃ m, f1 = m + 1 := ⟨f1 - 1, by omega⟩
    obtain ⟨f2, rfl⟩ : ∃ m, f2 = m + 1 := ⟨f2 - 1, by omega⟩
    obtain ⟨g1, g2⟩ := h4 (l - 1 + j) (by omega)
    have hbit : ∀ i, i < l → g (j + i) ≤ 1 := fun i hi => (h4 (j + i) (by omega)).1
    have hx := bvs_lt l j hbit
    have hwin : bvs g (l - 1 + j + 1) 0 0 % 2 ^ l = bvs g l j 0 := by
      rw [show l - 1 + j + 1 = j + l by omega]
      exact bvs_win hbit
    obtain ⟨c1, c2, c3⟩ := hc (bvs g l j 0) (by omega)
    obtain ⟨r, C2, D2, r1, r2, r3⟩ := ih f1 f2 (j + 1) (max bm (c (bvs g l j 0) + 1)) (upd C (bvs g l j 0) (nI (c (bvs g l j 0) + 1))) (upd D (bvs g l j 0) (nI (c (bvs g l j 0) + 1))) (fun x => if x = bvs g l j 0 then c (bvs g l j 0) + 1 else c x) (by omega) (by omega) (by omega) (fun x hx => by
      obtain ⟨e1, e2, e3⟩ := hc x hx
      by_cases e : x = bvs g l j 0
      · rw [if_pos e, e, upd_s, upd_s]
        exact ⟨rfl, rfl, by omega⟩
      · rw [if_neg e, upd_n e, upd_n e]
        exact ⟨e1, e2, by omega⟩) (by omega)
    refine ⟨r, C2, D2, r1, ?_, ?_⟩
    · refine Eq.trans ?_ r2
      show fl_X0_mostOften_26 (fb_X0_mostOften_26 f1) _ _ _ _ _ _ = _
      unfold fl_X0_mostOften_26
      dsimp only
      have hm : bvs g (l - 1 + j) 0 0 % 2 ^ l < 2 ^ l := Nat.mod_lt _ hp0
      rw [h1, if_neg (nI_ge (by omega) (by omega)), if_neg (n400 (by omega)), chk_nI (by omega) (by decide), nI_clamp (n := l - 1 + j) (by omega), g2, st_ev l (by omega) _ (by omega) _ (by omega) hm, bvs_mod, hwin, bnd_e, show nI l - (1 : Int32) = nI (l - 1) from pk_sub (b := 1) hl1, if_neg (nI_nlt (by omega) (by omega)), chk_nI (by omega) (by decide), chk_nI (by omega) (by decide), bnd_e, chk_nI (by omega) (by decide), nI_clamp (n := bvs g l j 0) (by omega), upd_s, c1, nI_1, mx_j (by omega) (by omega), bnd_e, bnd_e, nI_1, show l - 1 + j + 1 = l - 1 + (j + 1) by omega, ← hwin, show l - 1 + j + 1 = l - 1 + (j + 1) by omega]
    · refine Eq.trans ?_ r3
      show fl_X12_mostTuple_27 (fb_X12_mostTuple_27 f2) _ _ _ _ _ = _
      unfold fl_X12_mostTuple_27
      rw [nI_add, if_neg (nI_nlt (by omega) (by omega)), show fb_X12_mostTuple_41 (fb_X12_mostTuple_27 f2) FU (sC v D) (nI n) (nI l) (nI bm) (nI j) (0 : Int32) (0 : Int32) = _ from tu_inner (fb_X12_mostTuple_27 f2) hB0 (w := sC v D) hv (by omega) (nI bm) l FU 0 0 (by omega) (by show l < 8589934592; omega), Nat.add_zero]
      show fl_X12_mostTuple_41 (fb_X12_mostTuple_27 f2) (fb_X12_mostTuple_41 (fb_X12_mostTuple_27 f2) 0) _ _ _ _ _ _ _ = _
      unfold fl_X12_mostTuple_41
      have hD : (sC v D).2.2.2.2.2.2.2.2.2.2.2.2.2.2.2.2.2.2.2.2.2 = D := rfl
      rw [if_pos (nI_le (Nat.le_refl _) (by omega)), chk_nI (by omega) (by decide), chk_nI (by omega) (by decide), bnd_e, chk_nI (by omega) (by decide), nI_clamp (n := bvs g l j 0) (by omega), hD, upd_s, c2, nI_1, mx_g (by omega) (by omega), bnd1_s, bnd_e, nI_1]
      rfl
theorem tu_pre {u : V0} {F : Nat → Int32} {n : Nat} {g : Nat → Nat} (hB : BT u F n g) {l : Nat} (hl1 : 1 ≤ l) (hl8 : l ≤ 8) (hln : l ≤ n) (C : Nat → Int32) (x4 : Int32) (fu : Nat) : ∀ (d k : Nat), k + d = l - 1 → fb_X0_mostOften_26 (d + fu) (u.1, C, u.2.2) (nI l) (nI (2 ^ l - 1)) (nI (bvs g k 0 0 % 2 ^ l)) x4 (nI k) = fb_X0_mostOften_26 fu (u.1, C, u.2.2) (nI l) (nI (2 ^ l - 1)) (nI (bvs g (l - 1) 0 0 % 2 ^ l)) x4 (nI (l - 1)) := by
  obtain ⟨h1, h2, h3, h4, h5⟩ := hB
  have hp : 2 ^ l ≤ 2 ^ 8 := Nat.pow_le_pow_right (by decide) hl8
  have hp0 : 0 < 2 ^ l := Nat.pow_pos (by decide)
  intro d
  induction d with
  | zero =>
    intro k hk
    rw [show k = l - 1 by omega, Nat.zero_add]
  | succ d ih =>
    intro k hk
    rw [show d + 1 + fu = (d + fu) + 1 by omega]
    obtain ⟨g1, g2⟩ := h4 k (by omega)
    refine Eq.trans ?_ (ih (k + 1) (by omega))
    show fl_X0_mostOften_26 (fb_X0_mostOften_26 (d + fu)) _ _ _ _ _ _ = _
    unfold fl_X0_mostOften_26
    dsimp only
    have hm : bvs g k 0 0 % 2 ^ l < 2 ^ l := Nat.mod_lt _ hp0
    rw [h1, if_neg (nI_ge (by omega) (by omega)), if_neg (n400 (by omega)), chk_nI (by omega) (by decide), nI_clamp (n := k) (by omega), g2, st_ev l (by omega) _ (by omega) _ (by omega) hm, bvs_mod, bnd_e, show nI l - (1 : Int32) = nI (l - 1) from pk_sub (b := 1) hl1, if_pos (nI_lt (by omega) (by omega)), bnd_e, nI_1]
theorem often_rel {u : V0} {F : Nat → Int32} {n : Nat} {g : Nat → Nat} (hB : BT u F n g) {v : V12} (hv : v.2.1 = F) {l : Nat} (hl1 : 1 ≤ l) (hl8 : l ≤ 8) (hln : l ≤ n) : ∃ (r : Nat) (C2 D2 : Nat → Int32), r ≤ 400 ∧ f_X0_mostOften u (nI l) = some (nI r, (u.1, C2, u.2.2)) ∧ f_X12_mostTuple v (nI n) (nI l) = some (nI r, sC v D2) := by
  have h3 := hB.2.2.1
  obtain ⟨C, c1, c2, -⟩ := x_fill0 256 FU 0 u.2.1 (by omega) (by decide)
  obtain ⟨D, d1, d2⟩ := m_zero (nI n) (nI l) 256 FU 0 v v.2.2.2.2.2.2.2.2.2.2.2.2.2.2.2.2.2.2.2.2.2 (by omega) (by decide) (fun j hj => absurd hj (by omega))
  obtain ⟨r, C2, D2, r1, r2, r3⟩ := tu_loop hB hv hl1 hl8 hln (n - l + 1) (FU - (l - 1)) FU 0 0 C D (fun _ => 0) (by omega) (by show n - l + 1 < 8589934592 - (l - 1); omega) (by show n - l + 1 < 8589934592; omega) (fun x hx => ⟨c2 x (by omega) hx, d2 x hx, Nat.le_refl _⟩) (Nat.le_refl _)
  refine ⟨r, C2, D2, r1, ?_, ?_⟩
  · unfold f_X0_mostOften f_J7_fill_53178
    rw [bnd_e, show fb_J7_fill_53178_5 256 FU u.2.1 (0 : Int32) (0 : Int32) (Int32.ofNat 256) = _ from c1, bnd1_s, mk_ev l (by omega), bnd_e]
    have hpre := tu_pre hB hl1 hl8 hln C (nI 0) (FU - (l - 1)) (l - 1) 0 (by omega)
    have hF : l - 1 + (FU - (l - 1)) = FU := by
      show l - 1 + (8589934592 - (l - 1)) = 8589934592
      omega
    rw [hF, show bvs g 0 0 0 = 0 from rfl, Nat.zero_mod] at hpre
    rw [Nat.add_zero] at r2
    exact hpre.trans r2
  · exact Eq.trans d1 r3
theorem tup_rel {v0 : V11} {v : V12} (hQ : RQ 300 301 400 v0.1.2.2.2.2.2.1 v.2.1) (p1 p2 : Int32) : (∃ u : V11, u.1 = v0.1 ∧ f_X11_loadTuples v0 p1 p2 = some (0, u) ∧ f_X12_isTuple v p1 p2 = some 0) ∨ ∃ (n l H : Nat) (u : V0), p1 = nI n ∧ p2 = nI l ∧ 1 ≤ l ∧ l ≤ 8 ∧ l ≤ n ∧ LD u v.2.1 H n ∧ f_X11_loadTuples v0 p1 p2 = some (1, (v0.1, v0.2.1, v0.2.2.1, v0.2.2.2.1, u, v0.2.2.2.2.2.1, v0.2.2.2.2.2.2.1, v0.2.2.2.2.2.2.2)) ∧ f_X12_isTuple v p1 p2 = some 1 := by
  unfold f_X11_loadTuples f_X12_isTuple
  rcases there_rel hQ p1 (m := 1) (Or.inl rfl) with ⟨t1, t2⟩ | ⟨n, H, u, e, t1, t2, t3, t4⟩
  · left
    rw [show f_X11_loadLatest v0 p1 (1 : Int32) = _ from t1, show f_X12_isThere v p1 (1 : Int32) = _ from t2, bnd1_s, if_pos rfl, bnd2_s, if_pos rfl]
    by_cases c1 : p2 < 1
    · exact ⟨v0, rfl, if_pos c1, rfl⟩
    · rw [if_neg c1]
      by_cases c2 : 8 < p2
      · exact ⟨v0, rfl, if_pos c2, rfl⟩
      · rw [if_neg c2]
        by_cases c3 : p1 < p2
        · exact ⟨v0, rfl, if_pos c3, rfl⟩
        · exact ⟨(v0.1, v0.2.1, v0.2.2.1, v0.2.2.2.1, v0.2.2.2.2.1, v0.2.2.2.2.2.1, v0.2.2.2.2.2.2.1, v0.2.2.2.2.2.2.2), rfl, if_neg c3, rfl⟩
  · subst e
    have hn4 : n ≤ 400 := by have := t2.2.2.1; have := t2.2.2.2.1; omega
    have hle : f_X12_lesser 8 (nI n) = some (nI (min 8 n)) := by
      unfold f_X12_lesser
      by_cases h : n ≤ 8
      · rw [if_pos (show nI n ≤ (8 : Int32) from nI_le (b := 8) h (by decide)), Nat.min_eq_right h]
      · rw [if_neg (show ¬ nI n ≤ (8 : Int32) from nI_ge (a := 8) (by omega) (by omega)), Nat.min_eq_left (by omega)]
        rfl
    rw [show f_X11_loadLatest v0 (nI n) (1 : Int32) = _ from t3, show f_X12_isThere v (nI n) (1 : Int32) = _ from t4, bnd1_s, if_neg (show ¬ (1 : Int32) = 0 by decide), hle, bnd1_s, bnd2_s, if_neg (show ¬ (1 : Int32) = 0 by decide)]
    by_cases c1 : p2 < 1
    · left
      refine ⟨v0, rfl, if_pos c1, ?_⟩
      unfold f_X12_in
      rw [if_pos c1, bnd1_s, if_pos rfl]
    · have h0 : ¬ p2 < 0 := fun q => c1 (by
        rw [Int32.lt_iff_toInt_lt] at q ⊢
        rw [show (0 : Int32).toInt = 0 from rfl] at q
        rw [show (1 : Int32).toInt = 1 from rfl]
        omega)
      obtain ⟨l, hl, el⟩ := nI_of h0
      subst el
      have hl1 : 1 ≤ l := Nat.le_of_not_lt (fun q => c1 (nI_lt (b := 1) q (by decide)))
      have i2 : f_X12_in (nI l) 1 (nI (min 8 n)) = some (if (decide (1 ≤ l) && decide (l ≤ min 8 n)) = true then 1 else 0) := m_in2 (a := 1) (b := min 8 n) (by decide) (by omega) hl
      rw [if_neg c1, i2, bnd1_s]
      by_cases c2 : l ≤ min 8 n
      · right
        rw [if_neg (show ¬ (8 : Int32) < nI l from nI_nlt (a := 8) (by omega) (by decide)), if_neg (nI_nlt (by omega) (by omega)), if_neg (by rw [if_pos (in_dec ⟨hl1, c2⟩)]; decide)]
        exact ⟨n, l, H, u, rfl, rfl, hl1, by omega, by omega, t2, rfl, rfl⟩
      · left
        refine ⟨v0, rfl, ?_, if_pos (by rw [if_neg (in_ndec (by omega))])⟩
        by_cases c3 : 8 < l
        · rw [if_pos (show (8 : Int32) < nI l from nI_lt (a := 8) c3 hl)]
        · rw [if_neg (show ¬ (8 : Int32) < nI l from nI_nlt (a := 8) (by omega) (by decide)), if_pos (nI_lt (by omega) hl)]
theorem q_tuple {v0 : V11} {v : V12} (hQ : RQ 300 301 400 v0.1.2.2.2.2.2.1 v.2.1) (p1 p2 : Int32) : ∃ (r : Int32) (u : V11) (v2 : V12), u.1 = v0.1 ∧ f_X11_tuple v0 p1 p2 = some (r, u) ∧ f_X12_tuple v p1 p2 = some (r, v2) ∧ SM v v2 := by
  unfold f_X11_tuple f_X12_tuple
  rcases tup_rel (v := (0, v.2)) hQ p1 p2 with ⟨u, u1, u2, u3⟩ | ⟨n, l, H, u, e1, e2, l1, l2, l3, hL, u2, u3⟩
  · rw [u2, u3, bnd2_s, bnd1_s, if_pos rfl, if_pos rfl]
    exact ⟨-1, (u.1, v0.2.1, v0.2.2.1, v0.2.2.2.1, u.2.2.2.2.1, v0.2.2.2.2.2.1, v0.2.2.2.2.2.2.1, v0.2.2.2.2.2.2.2), (0, v.2), u1, rfl, rfl, rfl, rfl, rfl⟩
  · obtain ⟨g, hB⟩ := hL.bt
    obtain ⟨r, C2, D2, r1, r2, r3⟩ := often_rel hB (v := (0, v.2)) rfl l1 l2 l3
    rw [u2, u3, bnd2_s, bnd1_s, if_neg (show ¬ (1 : Int32) = 0 by decide), if_neg (show ¬ (1 : Int32) = 0 by decide), e1, e2]
    dsimp only
    rw [r2, bnd2_s, r3, bnd2_s]
    exact ⟨nI r, (v0.1, v0.2.1, v0.2.2.1, v0.2.2.2.1, (u.1, C2, u.2.2), v0.2.2.2.2.2.1, v0.2.2.2.2.2.2.1, v0.2.2.2.2.2.2.2), sC (0, v.2) D2, rfl, rfl, rfl, rfl, rfl, rfl⟩
theorem m_pow {x l : Nat} (hx : x < 2 ^ 31) (hl : l < 2 ^ 31) : ∀ (d fu k a : Nat), k + d = l → d < fu → fb_X12_power_5 fu (nI x) (nI l) (lN a) (nI k) = some (lN (a * x ^ d)) := by
  intro d
  induction d with
  | zero =>
    intro fu k a hk hf
    obtain ⟨fu, rfl⟩ : ∃ m, fu = m + 1 := ⟨fu - 1, by omega⟩
    show fl_X12_power_5 (fb_X12_power_5 fu) _ _ _ _ = _
    unfold fl_X12_power_5
    rw [if_pos (nI_le (by omega) (by omega)), Nat.pow_zero, Nat.mul_one]
  | succ d ih =>
    intro fu k a hk hf
    obtain ⟨fu, rfl⟩ : ∃ m, fu = m + 1 := ⟨fu - 1, by omega⟩
    have ih := ih fu (k + 1) (a * x) (by omega) (by omega)
    rw [Nat.mul_assoc, ← Nat.pow_succ'] at ih
    refine Eq.trans ?_ ih
    show fl_X12_power_5 (fb_X12_power_5 fu) _ _ _ _ = _
    unfold fl_X12_power_5
    rw [if_neg (nI_ge (by omega) (by omega)), nI_l hx, lN_mul, bnd_e, bnd_e, nI_1]
theorem x_spr {v0 : V11} {c l : Nat} (hc : v0.1.1.1 0 = nI c) (hc16 : c ≤ 16) (hl : l ≤ 8) : ∀ (d fu k a b : Nat), k + d = l → d < fu → a * 16 ^ d < 2 ^ 63 → b * c ^ d < 2 ^ 63 → fb_X11_spreads_32 fu v0 (nI l) (lN a) (lN b) (nI k) = some ((if b * c ^ d < a * 16 ^ d then 0 else 1), v0) := by
  intro d
  induction d with
  | zero =>
    intro fu k a b hk hf ha hb
    obtain ⟨fu, rfl⟩ : ∃ m, fu = m + 1 := ⟨fu - 1, by omega⟩
    rw [Nat.pow_zero, Nat.mul_one] at ha hb
    show fl_X11_spreads_32 (fb_X11_spreads_32 fu) _ _ _ _ _ = _
    unfold fl_X11_spreads_32
    rw [if_pos (nI_le (by omega) (by omega)), Nat.pow_zero, Nat.pow_zero, Nat.mul_one, Nat.mul_one]
    by_cases h : b < a
    · rw [if_pos ((lN_ltI hb ha).mpr h), if_pos h]
    · rw [if_neg (fun q => h ((lN_ltI hb ha).mp q)), if_neg h]
  | succ d ih =>
    intro fu k a b hk hf ha hb
    obtain ⟨fu, rfl⟩ : ∃ m, fu = m + 1 := ⟨fu - 1, by omega⟩
    rw [Nat.pow_succ', ← Nat.mul_assoc] at ha hb
    have ih := ih fu (k + 1) (a * 16) (b * c) (by omega) (by omega) ha hb
    rw [Nat.pow_succ', ← Nat.mul_assoc, Nat.pow_succ', ← Nat.mul_assoc]
    refine Eq.trans ?_ ih
    show fl_X11_spreads_32 (fb_X11_spreads_32 fu) _ _ _ _ _ = _
    unfold fl_X11_spreads_32
    rw [if_neg (nI_ge (by omega) (by omega)), show lN a * (16 : Int64) = lN (a * 16) from lN_mul a 16, bnd_e, show f_X7_valueOf v0.1.1 (0 : Int32) = f_X7_valueOf v0.1.1 (nI 0) from rfl, val_nI _ (by decide), bnd1_s, hc, nI_l (by omega), lN_mul, bnd_e, bnd_e, nI_1]
theorem q_spreads {B : Nat} {v0 : V11} {v : V12} (hR : R B v0.1 v.2.1) (p1 p2 : Int32) : ∃ (r : Int32) (u : V11) (v2 : V12), u.1 = v0.1 ∧ f_X11_spreads v0 p1 p2 = some (r, u) ∧ f_X12_spreads v p1 p2 = some (r, v2) ∧ SM v v2 := by
  obtain ⟨c, lg, W, BL, o, hSV, hS, -, -, -, -, hQ, -⟩ := hR
  obtain ⟨f0, -⟩ := hSV.cells hS
  have hc := hSV.2.2.1
  have hc0 := hSV.1
  unfold f_X11_spreads f_X12_spreads
  rcases tup_rel (v := (0, v.2)) hQ p1 p2 with ⟨u, u1, u2, u3⟩ | ⟨n, l, H, u, e1, e2, l1, l2, l3, hL, u2, u3⟩
  · rw [u2, u3, bnd2_s, bnd1_s, if_pos rfl, if_pos rfl]
    exact ⟨0, (u.1, v0.2.1, v0.2.2.1, v0.2.2.2.1, u.2.2.2.2.1, v0.2.2.2.2.2.1, v0.2.2.2.2.2.2.1, v0.2.2.2.2.2.2.2), (0, v.2), u1, rfl, rfl, rfl, rfl, rfl⟩
  · obtain ⟨g, hB⟩ := hL.bt
    have hn4 := hB.2.2.1
    obtain ⟨r, C2, D2, r1, r2, r3⟩ := often_rel hB (v := (0, v.2)) rfl l1 l2 l3
    have z1 : r * 16 ^ l ≤ 400 * 16 ^ 8 := Nat.mul_le_mul r1 (Nat.pow_le_pow_right (by decide) l2)
    have z2 : c ^ l ≤ 16 ^ 8 := Nat.le_trans (Nat.pow_le_pow_left (by omega) l) (Nat.pow_le_pow_right (by decide) l2)
    have z3 : (n - l + 1) * c ^ l ≤ 400 * 16 ^ 8 := Nat.mul_le_mul (by omega) z2
    have p16 := m_pow (x := 16) (l := l) (by decide) (by omega) l FU 0 1 (by omega) (by show l < 8589934592; omega)
    have pc := m_pow (x := c) (l := l) (by omega) (by omega) l FU 0 1 (by omega) (by show l < 8589934592; omega)
    rw [Nat.one_mul] at p16 pc
    have hs := x_spr (v0 := (v0.1, v0.2.1, v0.2.2.1, v0.2.2.2.1, (u.1, C2, u.2.2), v0.2.2.2.2.2.1, v0.2.2.2.2.2.2.1, v0.2.2.2.2.2.2.2)) (c := c) (l := l) hc0 (by omega) l2 l FU 0 r (n - l + 1) (by omega) (by show l < 8589934592; omega) (by omega) (by omega)
    rw [u2, u3, bnd2_s, bnd1_s, if_neg (show ¬ (1 : Int32) = 0 by decide), if_neg (show ¬ (1 : Int32) = 0 by decide), e1, e2]
    dsimp only
    rw [r2, bnd2_s, r3, bnd2_s, pk_sub l3, nI_1, nI_l (by omega), nI_l (by omega), bnd_e, bnd_e]
    unfold f_X12_power
    have hcell : (sC ((0 : Int32), v.2) D2).2.1 0 = nI c := f0
    rw [show fb_X12_power_5 FU (16 : Int32) (nI l) (1 : Int64) (0 : Int32) = _ from p16, bnd1_s, chk_in (show vp_in (0 : Int32) 4725 by unfold vp_in; decide), show ((0 : Int32)).toNatClampNeg = 0 from rfl, hcell, show fb_X12_power_5 FU (nI c) (nI l) (1 : Int64) (0 : Int32) = _ from pc, bnd1_s, lN_mul, lN_mul, show fb_X11_spreads_32 FU (v0.1, v0.2.1, v0.2.2.1, v0.2.2.2.1, (u.1, C2, u.2.2), v0.2.2.2.2.2.1, v0.2.2.2.2.2.2.1, v0.2.2.2.2.2.2.2) (nI l) (lN r) (lN (n - l + 1)) (0 : Int32) = _ from hs]
    by_cases h : (n - l + 1) * c ^ l < r * 16 ^ l
    · rw [if_pos h, if_pos ((lN_ltI (by omega) (by omega)).mpr h)]
      exact ⟨0, (v0.1, v0.2.1, v0.2.2.1, v0.2.2.2.1, (u.1, C2, u.2.2), v0.2.2.2.2.2.1, v0.2.2.2.2.2.2.1, v0.2.2.2.2.2.2.2), sC (0, v.2) D2, rfl, rfl, rfl, rfl, rfl, rfl⟩
    · rw [if_neg h, if_neg (fun q => h ((lN_ltI (by omega) (by omega)).mp q))]
      exact ⟨1, (v0.1, v0.2.1, v0.2.2.1, v0.2.2.2.1, (u.1, C2, u.2.2), v0.2.2.2.2.2.1, v0.2.2.2.2.2.2.1, v0.2.2.2.2.2.2.2), sC (0, v.2) D2, rfl, rfl, rfl, rfl, rfl, rfl⟩
end TU
