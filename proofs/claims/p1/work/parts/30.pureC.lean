theorem nI_of400 {p a b : Int32} {A B : Nat} (ea : a = nI A) (eb : b = nI B) (hB : B < 2 ^ 31) (hAB : A ≤ B) (h1 : ¬ p < a) (h2 : ¬ b < p) : ∃ N, N ≤ B ∧ A ≤ N ∧ p = nI N := by
  have h0 : ¬ p < 0 := by
    intro q
    apply h1
    rw [i_lt] at *
    rw [ea, nI_toInt (by omega)]
    have e0 : (0 : Int32).toInt = 0 := rfl
    omega
  obtain ⟨j, hj, rfl⟩ := nI_of h0
  refine ⟨j, ?_, ?_, rfl⟩
  · rcases Nat.lt_or_ge B j with q | q
    · exact absurd (by rw [eb]; exact nI_lt q hj) h2
    · exact q
  · rcases Nat.lt_or_ge j A with q | q
    · exact absurd (by rw [ea]; exact nI_lt q (by omega)) h1
    · exact q
/-! the limits are laid, and nothing else changes -/
theorem M_lays {w u : V12} (h : f_X12_laysLimits w = some u) : u.2.1 = w.2.1 := by
  unfold f_X12_laysLimits at h
  obtain ⟨r1, -, h⟩ := bnd1_el h
  obtain ⟨r2, -, h⟩ := bnd1_el h
  obtain ⟨r3, -, h⟩ := bnd1_el h
  obtain ⟨r4, -, h⟩ := bnd1_el h
  cases h
  rfl
/-! a copy from one place to another -/
def cpf (a : Nat → Int32) (i j k : Nat) : Nat → Int32 := fun q => if 945 * j + k ≤ q ∧ q < 945 * j + 945 then a (945 * i + (q - 945 * j)) else a q
theorem M_cps {i j : Nat} (hi : i < 5) (hj : j < 5) (hij : i ≠ j) : ∀ (m k : Nat), k + m = 945 → ∀ (n : Nat), m < n → ∀ (w : V12), fb_X12_copies_2 n w (nI i) (nI j) (nI k) = some (w.1, cpf w.2.1 i j k, w.2.2) := by
  intro m
  induction m with
  | zero =>
    intro k hk n hn w
    obtain ⟨n, rfl⟩ : ∃ j, n = j + 1 := ⟨n - 1, by omega⟩
    show fl_X12_copies_2 _ w (nI i) (nI j) (nI k) = _
    unfold fl_X12_copies_2
    rw [if_pos (show (945 : Int32) ≤ nI k from nI_le (a := 945) (by omega) (by omega))]
    have e : cpf w.2.1 i j k = w.2.1 := by
      funext q
      unfold cpf
      rw [if_neg (by omega)]
    rw [e]
  | succ m ih =>
    intro k hk n hn w
    obtain ⟨n, rfl⟩ : ∃ j, n = j + 1 := ⟨n - 1, by omega⟩
    show fl_X12_copies_2 _ w (nI i) (nI j) (nI k) = _
    unfold fl_X12_copies_2
    rw [if_neg (show ¬ (945 : Int32) ≤ nI k from nI_ge (b := 945) (by omega) (by decide))]
    rw [show (945 : Int32) * nI i + nI k = nI (945 * i + k) from by rw [show (945 : Int32) = nI 945 from rfl, pk_mul, nI_add], show (945 : Int32) * nI j + nI k = nI (945 * j + k) from by rw [show (945 : Int32) = nI 945 from rfl, pk_mul, nI_add]]
    rw [ci (by omega) (by decide), ci (by omega) (by decide), nI_clamp (by omega), nI_clamp (by omega)]
    show fb_X12_copies_2 n (w.1, upd w.2.1 (945 * j + k) (w.2.1 (945 * i + k)), w.2.2) (nI i) (nI j) (nI k + 1) = _
    rw [nI_1, ih (k + 1) (by omega) n (by omega)]
    have e : cpf (upd w.2.1 (945 * j + k) (w.2.1 (945 * i + k))) i j (k + 1) = cpf w.2.1 i j k := by
      funext q
      unfold cpf upd
      by_cases h1 : 945 * j + (k + 1) ≤ q ∧ q < 945 * j + 945
      · rw [if_pos h1, if_neg (show ¬ 945 * i + (q - 945 * j) = 945 * j + k from by omega), if_pos (show 945 * j + k ≤ q ∧ q < 945 * j + 945 from by omega)]
      · rw [if_neg h1]
        by_cases h2 : q = 945 * j + k
        · rw [if_pos h2, if_pos (by omega), h2, Nat.add_sub_cancel_left]
        · rw [if_neg h2, if_neg (by omega)]
    show some (w.1, cpf (upd w.2.1 (945 * j + k) (w.2.1 (945 * i + k))) i j (k + 1), w.2.2) = _
    rw [e]
theorem M_copies {i j : Nat} (hi : i < 5) (hj : j < 5) (hij : i ≠ j) (w : V12) : f_X12_copies w (nI i) (nI j) = some (w.1, cpf w.2.1 i j 0, w.2.2) := M_cps hi hj hij 945 0 (by omega) FU (FU_gt (by decide)) w
set_option maxRecDepth 100000 in
theorem tLay : (f_X12_laysLimits (0, vM.2)).isSome = true := by decide +kernel
set_option maxRecDepth 100000 in
theorem tLay2 : (f_X12_laysLimits (0, cpf vM.2.1 0 4 0, vM.2.2)).isSome = true := by decide +kernel
set_option maxRecDepth 100000 in
theorem m25 : vM.2.1 25 = 0 := by decide +kernel
set_option maxRecDepth 100000 in
theorem m9 : vM.2.1 9 = 0 := by decide +kernel
set_option maxRecDepth 100000 in
theorem m23 : vM.2.1 23 = 0 := by decide +kernel
set_option maxRecDepth 100000 in
theorem m300 : vM.2.1 300 = 0 := by decide +kernel
set_option maxRecDepth 100000 in
theorem m43 : vM.2.1 43 = 0 := by decide +kernel
set_option maxRecDepth 100000 in
theorem m701 : vM.2.1 701 = 0 := by decide +kernel
set_option maxRecDepth 100000 in
theorem x0 : vX.1.2.2.2.2.2.2.2.2.1 = 0 := by decide +kernel
set_option maxRecDepth 100000 in
theorem xst : vX.1.1.2.2.2.2 = 0 := by decide +kernel
set_option maxRecDepth 100000 in
theorem xsz : vX.1.2.2.2.2.2.1.2.2 = 0 := by decide +kernel
set_option maxRecDepth 100000 in
theorem xpl : vX.1.2.2.2.2.1.1.2.2 = 0 := by decide +kernel
set_option maxRecDepth 100000 in
theorem xrw : vX.1.2.2.2.2.2.2.1.2.2 = 0 := by decide +kernel
set_option maxRecDepth 100000 in
theorem xdr : vX.1.2.2.1.2.1 = 0 := by decide +kernel
theorem lay1 : ∃ u, f_X12_laysLimits (0, vM.2) = some u := Option.isSome_iff_exists.mp tLay
theorem M_laysZ {t : Int32} {w u : V12} (h : f_X12_laysLimits (t, w.2) = some u) : u.2.1 = w.2.1 := by
  have e := M_lays (w := (t, w.2)) h
  exact e
theorem g5 (xs : Nat → Int32) (v : V11) (w : V12) (x0 : v.1.2.2.2.2.2.2.2.2.1 = 0) (xst : v.1.1.2.2.2.2 = 0) (m25 : w.2.1 25 = 0) (m9 : w.2.1 9 = 0) (lay1 : ∃ u, f_X12_laysLimits (0, w.2) = some u) : fk_5 xs v w (fun _ => 0) = some () := by
  unfold fk_5
  generalize xs ((0 : Int32) + (1 : Int32)).toNatClampNeg = p
  by_cases h : p < 1 ∨ 400 < p
  · refine both2 (-1) ?_ ?_
    · unfold f_X11_draw
      by_cases h1 : p < 1
      · rw [if_pos h1]; exact ⟨_, rfl⟩
      · rw [if_neg h1, if_neg (Int32.not_le.mpr (h.resolve_left h1))]; exact ⟨_, rfl⟩
    · unfold f_X12_draw
      rw [in_no h]; exact ⟨_, rfl⟩
  · have h1 : ¬ p < 1 := fun q => h (Or.inl q)
    have h2 : ¬ 400 < p := fun q => h (Or.inr q)
    obtain ⟨N, hN, -, rfl⟩ := nI_of400 (A := 1) (B := 400) rfl rfl (by decide) (by decide) h1 h2
    refine both2 0 ?_ ?_
    · unfold f_X11_draw
      rw [if_neg h1, if_pos (Int32.not_lt.mp h2)]
      unfold f_X10_drawMany
      obtain ⟨u, e, -⟩ := X_draws (N := N) (by omega) N 0 (by omega) FU (FU_gt (by omega)) v.1 0 x0 xst
      rw [show (0 : Int32) = nI 0 from rfl] at e ⊢
      rw [e]; exact ⟨_, rfl⟩
    · unfold f_X12_draw
      obtain ⟨u, hu⟩ := lay1
      have hua := M_laysZ hu
      rw [in_yes h1 h2, b1s, if_neg (by decide)]
      unfold f_X12_draws
      rw [hu, b1s]
      obtain ⟨w', e, -⟩ := M_draws (N := N) (by omega) N 0 (by omega) FU (FU_gt (by omega)) u 0 (by rw [hua]; exact m25) (by rw [hua]; exact m9)
      rw [show fb_X12_draws_8 FU u (nI N) 0 0 = some (0, w') from e]; exact ⟨_, rfl⟩
theorem q5 (xs : Nat → Int32) : fk_5 xs vX vM (fun _ => 0) = some () := g5 xs vX vM x0 xst m25 m9 lay1
