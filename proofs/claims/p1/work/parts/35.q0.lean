theorem f255 (j : Nat) : (255 : Int32).toBitVec.getLsbD j = decide (j < 8) := by
  show (BitVec.ofNat 32 255).getLsbD j = _
  rw [BitVec.getLsbD_ofNat, show (255 : Nat) = 2 ^ 8 - 1 from rfl, Nat.testBit_two_pow_sub_one]
  by_cases h : j < 8
  · have : j < 32 := by omega
    simp [h, this]
  · simp [h]
theorem f255' (j : Nat) : (255 : Int64).toBitVec.getLsbD j = decide (j < 8) := by
  show (BitVec.ofNat 64 255).getLsbD j = _
  rw [BitVec.getLsbD_ofNat, show (255 : Nat) = 2 ^ 8 - 1 from rfl, Nat.testBit_two_pow_sub_one]
  by_cases h : j < 8
  · have : j < 64 := by omega
    simp [h, this]
  · simp [h]
theorem sm1 : ∀ s : Fin 57, ((UInt64.ofNat s.1).toBitVec % 64).toNat = s.1 := by decide +kernel
theorem sm2 : ∀ s : Fin 57, ((Int64.ofNat s.1).toBitVec.smod 64).toNat = s.1 := by decide +kernel
theorem by_bit (x : Int64) (s : Nat) (hs : s ≤ 56) (y : Int32) (h1 : (y.toInt64.toUInt64 &&& Int64.toUInt64 63) = UInt64.ofNat s) (h2 : (y.toInt64 &&& 63) = Int64.ofNat s) : (Int64.toInt32 (jlushr x y) &&& (255 : Int32) = 0) ↔ (jlshr x y &&& (255 : Int64) = 0) := by
  unfold jlushr jlshr
  rw [h1, h2]
  have a1 : ∀ j, ((Int64.toInt32 (x.toUInt64 >>> UInt64.ofNat s).toInt64) &&& (255 : Int32)).toBitVec.getLsbD j = (decide (j < 8) && x.toBitVec.getLsbD (s + j)) := by
    intro j
    show (((x.toBitVec >>> ((UInt64.ofNat s).toBitVec % 64)).signExtend 32) &&& (255 : Int32).toBitVec).getLsbD j = _
    rw [BitVec.getLsbD_and, f255, BitVec.getLsbD_signExtend, BitVec.ushiftRight_eq', BitVec.getLsbD_ushiftRight, sm1 ⟨s, by omega⟩]
    by_cases h : j < 8
    · have g1 : j < 32 := by omega
      have g2 : j < 64 := by omega
      simp [h, g1, g2]
    · simp [h]
  have a2 : ∀ j, ((x >>> Int64.ofNat s) &&& (255 : Int64)).toBitVec.getLsbD j = (decide (j < 8) && x.toBitVec.getLsbD (s + j)) := by
    intro j
    show ((x.toBitVec.sshiftRight' ((Int64.ofNat s).toBitVec.smod 64)) &&& (255 : Int64).toBitVec).getLsbD j = _
    rw [BitVec.getLsbD_and, f255', BitVec.sshiftRight', BitVec.getLsbD_sshiftRight, sm2 ⟨s, by omega⟩]
    by_cases h : j < 8
    · have g1 : ¬ 64 ≤ j := by omega
      have g2 : s + j < 64 := by omega
      simp [h, g1, g2]
    · simp [h]
  constructor
  · intro h
    apply Int64.toBitVec_inj.mp
    apply BitVec.eq_of_getLsbD_eq
    intro j hj
    rw [a2, ← a1, h]
    simp
  · intro h
    apply Int32.toBitVec_inj.mp
    apply BitVec.eq_of_getLsbD_eq
    intro j hj
    rw [a1, ← a2, h]
    simp
theorem by_k (x : Int64) : ∀ k, k < 8 → ((Int64.toInt32 (jlushr x ((56 : Int32) - ((8 : Int32) * nI k))) &&& (255 : Int32) = 0) ↔ (jlshr x ((56 : Int32) - ((8 : Int32) * nI k)) &&& (255 : Int64) = 0)) := by
  intro k hk
  have hc : k = 0 ∨ k = 1 ∨ k = 2 ∨ k = 3 ∨ k = 4 ∨ k = 5 ∨ k = 6 ∨ k = 7 := by omega
  rcases hc with rfl | rfl | rfl | rfl | rfl | rfl | rfl | rfl
  · exact by_bit x 56 (by decide) _ (by decide) (by decide)
  · exact by_bit x 48 (by decide) _ (by decide) (by decide)
  · exact by_bit x 40 (by decide) _ (by decide) (by decide)
  · exact by_bit x 32 (by decide) _ (by decide) (by decide)
  · exact by_bit x 24 (by decide) _ (by decide) (by decide)
  · exact by_bit x 16 (by decide) _ (by decide) (by decide)
  · exact by_bit x 8 (by decide) _ (by decide) (by decide)
  · exact by_bit x 0 (by decide) _ (by decide) (by decide)
theorem X_a46 {x : Int64} {N : Nat} (hN : N ≤ 8) : ∀ (m k : Nat), k + m = N → ∀ (n : Nat), m < n → ∀ (v : V9), v.2.1 = 0 → ∃ u, fb_X9_append_46 n v x (nI N) (nI k) = some (nI N, u) := by
  intro m
  induction m with
  | zero =>
    intro k hk n hn v h0
    obtain ⟨n, rfl⟩ : ∃ j, n = j + 1 := ⟨n - 1, by omega⟩
    show ∃ u, fl_X9_append_46 (fb_X9_append_46 n) v x (nI N) (nI k) = some (nI N, u)
    unfold fl_X9_append_46
    rw [if_pos (nI_le (by omega) (by omega)), b0s, h0, Int32.zero_add]
    exact ⟨_, rfl⟩
  | succ m ih =>
    intro k hk n hn v h0
    obtain ⟨n, rfl⟩ : ∃ j, n = j + 1 := ⟨n - 1, by omega⟩
    show ∃ u, fl_X9_append_46 (fb_X9_append_46 n) v x (nI N) (nI k) = some (nI N, u)
    unfold fl_X9_append_46 f_X9_byteOf
    rw [if_neg (nI_ge (by omega) (by omega)), b1s, h0, Int32.zero_add, ci (by omega) (by decide), b0s, b0s, nI_1]
    exact ih (k + 1) (by omega) n (by omega) _ h0
theorem M_a58 {x : Int64} {N : Nat} (hN : N ≤ 8) : ∀ (m k : Nat), k + m = N → ∀ (n : Nat), m < n → ∀ (w : V12), w.2.1 942 = nI k → ∃ u, fb_X12_tell_58 n w x (nI N) (nI k) = some (nI N, u) := by
  intro m
  induction m with
  | zero =>
    intro k hk n hn w h0
    obtain ⟨n, rfl⟩ : ∃ j, n = j + 1 := ⟨n - 1, by omega⟩
    show ∃ u, fl_X12_tell_58 (fb_X12_tell_58 n) w x (nI N) (nI k) = some (nI N, u)
    unfold fl_X12_tell_58
    rw [if_pos (nI_le (by omega) (by omega)), cl (by decide), show w.2.1 ((942 : Int32)).toNatClampNeg = nI k from h0, show k = N from by omega]
    exact ⟨_, rfl⟩
  | succ m ih =>
    intro k hk n hn w h0
    obtain ⟨n, rfl⟩ : ∃ j, n = j + 1 := ⟨n - 1, by omega⟩
    show ∃ u, fl_X12_tell_58 (fb_X12_tell_58 n) w x (nI N) (nI k) = some (nI N, u)
    unfold fl_X12_tell_58
    rw [if_neg (nI_ge (by omega) (by omega)), cl (by decide), show w.2.1 ((942 : Int32)).toNatClampNeg = nI k from h0, ci (by omega) (by decide), b0s, cl (by decide), cl (by decide), b0s, b0s, nI_1]
    exact ih (k + 1) (by omega) n (by omega) _ (show upd w.2.1 942 (nI (k + 1)) 942 = nI (k + 1) from upd_eq)
theorem tells {x : Int64} {v : V9} {w : V12} (hv : v.2.1 = 0) (hw : w.2.1 942 = 0) : ∀ (m k : Nat), k + m = 8 → ∀ (n n' : Nat), m < n → m < n' → ∃ N u u', fb_X9_append_2 n v x (nI k) = some (nI N, u) ∧ fb_X12_tell_7 n' w x (nI k) = some (nI N, u') := by
  have stop : ∀ k, k ≤ 8 → ∃ N u u', fc_X9_append_22 v x (nI k) = some (nI N, u) ∧ fc_X12_tell_37 w x (nI k) = some (nI N, u') := by
    intro k hk
    obtain ⟨u, e1⟩ := X_a46 (x := x) hk k 0 (by omega) FU (FU_gt (by omega)) v hv
    obtain ⟨u', e2⟩ := M_a58 (x := x) hk k 0 (by omega) FU (FU_gt (by omega)) w hw
    refine ⟨k, u, u', ?_, ?_⟩
    · unfold fc_X9_append_22
      rw [hv, if_neg (by decide), Int32.zero_add, if_pos (show nI k ≤ (300 : Int32) from nI_le (b := 300) (by omega) (by decide))]
      exact e1
    · unfold fc_X12_tell_37
      rw [cl (by decide), show w.2.1 ((942 : Int32)).toNatClampNeg = 0 from hw, Int32.zero_add, if_pos (show nI k ≤ (300 : Int32) from nI_le (b := 300) (by omega) (by decide))]
      exact e2
  intro m
  induction m with
  | zero =>
    intro k hk n n' hn hn'
    obtain ⟨n, rfl⟩ : ∃ j, n = j + 1 := ⟨n - 1, by omega⟩
    obtain ⟨n', rfl⟩ : ∃ j, n' = j + 1 := ⟨n' - 1, by omega⟩
    show ∃ N u u', fl_X9_append_2 (fb_X9_append_2 n) v x (nI k) = some (nI N, u) ∧ fl_X12_tell_7 (fb_X12_tell_7 n') w x (nI k) = some (nI N, u')
    unfold fl_X9_append_2 fl_X12_tell_7
    have h8 : (8 : Int32) ≤ nI k := nI_le (a := 8) (by omega) (by omega)
    rw [if_pos h8, if_pos h8]
    exact stop k (by omega)
  | succ m ih =>
    intro k hk n n' hn hn'
    obtain ⟨n, rfl⟩ : ∃ j, n = j + 1 := ⟨n - 1, by omega⟩
    obtain ⟨n', rfl⟩ : ∃ j, n' = j + 1 := ⟨n' - 1, by omega⟩
    show ∃ N u u', fl_X9_append_2 (fb_X9_append_2 n) v x (nI k) = some (nI N, u) ∧ fl_X12_tell_7 (fb_X12_tell_7 n') w x (nI k) = some (nI N, u')
    unfold fl_X9_append_2 fl_X12_tell_7 f_X9_byteOf
    have h8 : ¬ (8 : Int32) ≤ nI k := nI_ge (b := 8) (by omega) (by decide)
    have hb := by_k x k (by omega)
    rw [if_neg h8, if_neg h8, b1s]
    by_cases h : Int64.toInt32 (jlushr x ((56 : Int32) - ((8 : Int32) * nI k))) &&& (255 : Int32) = 0
    · rw [if_pos h, if_pos (hb.mp h)]
      exact stop k (by omega)
    · rw [if_neg h, if_neg (fun q => h (hb.mpr q)), b0s, b0s, nI_1]
      exact ih (k + 1) (by omega) n n' (by omega) (by omega)
theorem g0 (xs : Nat → Int32) (v : V11) (w : V12) (hv : v.1.2.2.2.2.2.2.2.1.2.1 = 0) (hw : w.2.1 942 = 0) : fk_0 xs v w (fun _ => 0) = some () := by
  unfold fk_0
  generalize (jlshl (Int32.toInt64 (xs ((0 : Int32) + (1 : Int32)).toNatClampNeg)) (32 : Int32)) ||| ((Int32.toInt64 (xs ((0 : Int32) + (2 : Int32)).toNatClampNeg)) &&& (4294967295 : Int64)) = x
  obtain ⟨N, u, u', e1, e2⟩ := tells (x := x) (v := v.1.2.2.2.2.2.2.2.1) (w := (0, w.2)) hv hw 8 0 (by omega) FU FU (FU_gt (by omega)) (FU_gt (by omega))
  refine both2 (nI N) ?_ ?_
  · unfold f_X11_tell f_X9_append
    rw [show fb_X9_append_2 FU v.1.2.2.2.2.2.2.2.1 x 0 = _ from e1]
    exact ⟨_, rfl⟩
  · unfold f_X12_tell
    exact ⟨_, e2⟩
set_option maxRecDepth 100000 in
theorem xtx : vX.1.2.2.2.2.2.2.2.1.2.1 = 0 := by decide +kernel
set_option maxRecDepth 100000 in
theorem m942 : vM.2.1 942 = 0 := by decide +kernel
theorem q0 (xs : Nat → Int32) : fk_0 xs vX vM (fun _ => 0) = some () := g0 xs vX vM xtx m942
