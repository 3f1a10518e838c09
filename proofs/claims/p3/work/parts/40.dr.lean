section DR
theorem R_src {B : Nat} {w : V10} {F F2 : Nat → Int32} {o2 : V8} (hR : R B w F) (hO : RO o2 F2) (e : ∀ j, j < 22 ∨ 25 ≤ j → F2 j = F j) : R B (w.1, w.2.1, o2, w.2.2.2) F2 := by
  obtain ⟨c, lg, W, BL, o, hSV, hS, hLm, -, hC, hP, hQ, hRr, w25, w26, w27, w28, w29, w30, wst⟩ := hR
  refine ⟨c, lg, W, BL, o, hSV, hS.frame (fun j hj => e j (by omega)), hLm, hO, hC.frame (fun j a1 a2 => e j (by omega)), hP.frame (fun j a1 a2 => e j (by omega)), hQ.frame (fun j hj => e j (by omega)), hRr.frame (fun j a1 a2 => e j (by omega)), ?_, ?_, ?_, ?_, ?_, fun h => ⟨?_, ?_⟩, wst⟩
  · rw [e 25 (by omega)]; exact w25
  · rw [e 26 (by omega)]; exact w26
  · rw [e 27 (by omega)]; exact w27
  · rw [e 28 (by omega)]; exact w28
  · rw [e 29 (by omega)]; exact w29
  · rw [e 30 (by omega)]; exact (w30 h).1
  · rw [e 701 (by omega)]; exact (w30 h).2
theorem LimM_of {v v2 : V12} {w w2 : V10} (h : LimM v w) (e1 : w2.1 = w.1) (e2 : w2.2.1 = w.2.1) (ev : v2.2.2 = v.2.2) : LimM v2 w2 := by
  obtain ⟨l1, l2, l3, Y, l4, l5, l6⟩ := h
  unfold LimM
  rw [e1, e2, ev]
  exact ⟨l1, l2, l3, Y, l4, l5, l6⟩
theorem draws_loop {n : Nat} (hn : n ≤ 400) : ∀ (d f1 f2 k B : Nat) (cn : Int32) (w : V10) (v : V12), R B w v.2.1 → LimM v w → B + d < 2 ^ 30 → k + d = n → d < f1 → d < f2 → ∃ (r : Int32) (w2 : V10) (F2 : Nat → Int32), fb_X10_drawMany_4 f1 w (nI n) cn (nI k) = some (r, w2) ∧ fb_X12_draws_8 f2 v (nI n) cn (nI k) = some (r, (v.1, F2, v.2.2)) ∧ R (B + d) w2 F2 ∧ w2.1 = w.1 ∧ w2.2.1 = w.2.1 ∧ w2.2.2.2.2.2.2.2.1 = w.2.2.2.2.2.2.2.1 ∧ ∀ j, 942 ≤ j → F2 j = v.2.1 j := by
  intro d
  induction d with
  | zero =>
    intro f1 f2 k B cn w v hR hL hB hk hf1 hf2
    obtain ⟨f1, rfl⟩ : ∃ m, f1 = m + 1 := ⟨f1 - 1, by omega⟩
    obtain ⟨f2, rfl⟩ : ∃ m, f2 = m + 1 := ⟨f2 - 1, by omega⟩
    refine ⟨cn, w, v.2.1, ?_, ?_, hR, rfl, rfl, rfl, fun _ _ => rfl⟩
    · unfold fb_X10_drawMany_4 fl_X10_drawMany_4
      rw [if_pos (nI_le (by omega) (by omega))]
    · unfold fb_X12_draws_8 fl_X12_draws_8
      rw [if_pos (nI_le (by omega) (by omega))]
  | succ d ih =>
    intro f1 f2 k B cn w v hR hL hB hk hf1 hf2
    obtain ⟨f1, rfl⟩ : ∃ m, f1 = m + 1 := ⟨f1 - 1, by omega⟩
    obtain ⟨f2, rfl⟩ : ∃ m, f2 = m + 1 := ⟨f2 - 1, by omega⟩
    have hR0 := hR
    obtain ⟨c, lg, W, BL, o, hSV, hS, hLm, hO, hrest⟩ := hR
    obtain ⟨r1, o2, F1, n1, n2, n3, n4, n5⟩ := next_rel hS hO
    have hR1 := R_src hR0 n4 n5
    obtain ⟨r, w2, F2, a1, a2, a3, a4, a5, a6, a7, a8, a9⟩ := hear_rel (B := B) (w := (w.1, w.2.1, o2, w.2.2.2)) (v := (v.1, F1, v.2.2)) (b := r1) hR1 (LimM_of hL rfl rfl rfl) n3 (by omega)
    have hL2 : LimM (v.1, F2, v.2.2) w2 := LimM_of hL a4 a5 rfl
    have fin : ∀ cn2 : Int32, ∃ (r : Int32) (w3 : V10) (F3 : Nat → Int32), fb_X10_drawMany_4 f1 w2 (nI n) cn2 (nI (k + 1)) = some (r, w3) ∧ fb_X12_draws_8 f2 (v.1, F2, v.2.2) (nI n) cn2 (nI (k + 1)) = some (r, (v.1, F3, v.2.2)) ∧ R (B + (d + 1)) w3 F3 ∧ w3.1 = w.1 ∧ w3.2.1 = w.2.1 ∧ w3.2.2.2.2.2.2.2.1 = w.2.2.2.2.2.2.2.1 ∧ ∀ j, 942 ≤ j → F3 j = v.2.1 j := by
      intro cn2
      obtain ⟨r, w3, F3, b1, b2, b3, b4, b5, b6, b7⟩ := ih f1 f2 (k + 1) (B + 1) cn2 w2 (v.1, F2, v.2.2) a3 hL2 (by omega) (by omega) (by omega) (by omega)
      refine ⟨r, w3, F3, b1, b2, by rw [show B + (d + 1) = B + 1 + d by omega]; exact b3, by rw [b4, a4], by rw [b5, a5], by rw [b6, a7], fun j hj => ?_⟩
      rw [b7 j hj, show (v.1, F2, v.2.2).2.1 = F2 from rfl, a8 j hj]
      exact n5 j (by omega)
    have hX : fb_X10_drawMany_4 (f1 + 1) w (nI n) cn (nI k) = (if r = 0 then fb_X10_drawMany_4 f1 w2 (nI n) cn (nI (k + 1)) else fb_X10_drawMany_4 f1 w2 (nI n) (cn + 1) (nI (k + 1))) := by
      show fl_X10_drawMany_4 (fb_X10_drawMany_4 f1) w (nI n) cn (nI k) = _
      unfold fl_X10_drawMany_4
      rw [if_neg (nI_ge (by omega) (by omega)), n1, bnd2_s, a1, bnd2_s, bnd_e, bnd_e, bnd_e, nI_1]
    have hM : fb_X12_draws_8 (f2 + 1) v (nI n) cn (nI k) = (if r = 0 then fb_X12_draws_8 f2 (v.1, F2, v.2.2) (nI n) (cn + 0) (nI (k + 1)) else fb_X12_draws_8 f2 (v.1, F2, v.2.2) (nI n) (cn + 1) (nI (k + 1))) := by
      show fl_X12_draws_8 (fb_X12_draws_8 f2) v (nI n) cn (nI k) = _
      unfold fl_X12_draws_8
      rw [if_neg (nI_ge (by omega) (by omega)), n2, bnd2_s, a2, bnd2_s, bnd_e, bnd_e, bnd_e, bnd_e, nI_1]
    rw [hX, hM, Int32.add_zero]
    by_cases hr : r = 0
    · rw [if_pos hr, if_pos hr]
      exact fin cn
    · rw [if_neg hr, if_neg hr]
      exact fin (cn + 1)
theorem lays2 {B : Nat} {w : V10} {v : V12} (hR : R B w v.2.1) : ∃ v1 : V12, f_X12_laysLimits v = some v1 ∧ LimM v1 w ∧ v1.1 = v.1 ∧ v1.2.1 = v.2.1 ∧ v1.2.2.1 = v.2.2.1 ∧ v1.2.2.2.1 = v.2.2.2.1 := by
  obtain ⟨l1, l2, l3, l4, hl, hL⟩ := lays_rel hR
  exact ⟨_, hl, hL, rfl, rfl, rfl, rfl⟩
/-- drawMany(n), draws(n) -/
theorem draws_rel {B n : Nat} {w : V10} {v : V12} (hR : R B w v.2.1) (hn : n ≤ 400) (hB : B + n < 2 ^ 30) : ∃ (r : Int32) (w2 : V10) (v2 : V12), f_X10_drawMany w (nI n) = some (r, w2) ∧ f_X12_draws v (nI n) = some (r, v2) ∧ R (B + n) w2 v2.2.1 ∧ w2.2.2.2.2.2.2.2.1 = w.2.2.2.2.2.2.2.1 ∧ v2.2.2.1 = v.2.2.1 ∧ v2.2.2.2.1 = v.2.2.2.1 ∧ v2.1 = v.1 ∧ ∀ j, 942 ≤ j → v2.2.1 j = v.2.1 j := by
  obtain ⟨v1, hl, hL, e1, e2, e3, e4⟩ := lays2 hR
  obtain ⟨r, w2, F2, b1, b2, b3, b4, b5, b6, b7⟩ := draws_loop hn n FU FU 0 B 0 w v1 (by rw [e2]; exact hR) hL hB (by omega) (by show n < 8589934592; omega) (by show n < 8589934592; omega)
  refine ⟨r, w2, (v1.1, F2, v1.2.2), b1, ?_, b3, b6, e3, e4, e1, fun j hj => ?_⟩
  · unfold f_X12_draws
    rw [hl, bnd1_s]
    exact b2
  · rw [← e2]; exact b7 j hj
theorem bit_k (x : Int32) {k : Nat} (hk : k < 32) : jushr x (nI k) &&& 1 = nI (x.toBitVec.toNat / 2 ^ k % 2) ∧ x >>> (nI k &&& 31) &&& 1 = nI (x.toBitVec.toNat / 2 ^ k % 2) := by
  constructor
  · rw [pk_and _ 1 (by decide)]
    congr 1
    show (jushr x (nI k)).toBitVec.toNat % 2 = _
    have e : (jushr x (nI k)).toBitVec.toNat = x.toBitVec.toNat / 2 ^ k := pk_ushr x (nI k) k (ushr_ok k hk)
    rw [e]
  · rw [pk_and _ 1 (by decide)]
    congr 1
    have e : (x >>> (nI k &&& 31)).toBitVec = x.toBitVec.sshiftRight k := by
      show x.toBitVec.sshiftRight ((nI k &&& 31).toBitVec.smod 32).toNat = _
      rw [shl_ok k hk]
    show (x >>> (nI k &&& 31)).toBitVec.toNat % 2 = _
    rw [e]
    have h1 : (x.toBitVec.sshiftRight k).toNat.testBit 0 = x.toBitVec.toNat.testBit k := by
      show (x.toBitVec.sshiftRight k).getLsbD 0 = x.toBitVec.getLsbD k
      rw [BitVec.getLsbD_sshiftRight]
      simp [hk]
    rw [Nat.testBit_zero, Nat.testBit_eq_decide_div_mod_eq] at h1
    have h2 := decide_eq_decide.mp h1
    have := Nat.mod_two_eq_zero_or_one (x.toBitVec.sshiftRight k).toNat
    have := Nat.mod_two_eq_zero_or_one (x.toBitVec.toNat / 2 ^ k)
    omega
theorem hand_loop (bits : Int32) : ∀ (y f1 f2 B : Nat) (cn : Int32) (x : V11) (v : V12), R B x.1 v.2.1 → LimM v x.1 → B + y < 2 ^ 30 → y ≤ 32 → y < f1 → y < f2 → ∃ (r : Int32) (w2 : V10) (F2 : Nat → Int32), fb_X11_hand_20 f1 x bits cn (nI y - 1) = some (r, (w2, x.2)) ∧ fb_X12_hand_28 f2 v bits cn (nI y - 1) = some (r, (v.1, F2, v.2.2)) ∧ R (B + y) w2 F2 ∧ w2.2.2.2.2.2.2.2.1 = x.1.2.2.2.2.2.2.2.1 ∧ ∀ j, 942 ≤ j → F2 j = v.2.1 j := by
  intro y
  induction y with
  | zero =>
    intro f1 f2 B cn x v hR hL hB hy hf1 hf2
    obtain ⟨f1, rfl⟩ : ∃ m, f1 = m + 1 := ⟨f1 - 1, by omega⟩
    obtain ⟨f2, rfl⟩ : ∃ m, f2 = m + 1 := ⟨f2 - 1, by omega⟩
    refine ⟨cn, x.1, v.2.1, ?_, ?_, hR, rfl, fun _ _ => rfl⟩
    · unfold fb_X11_hand_20 fl_X11_hand_20
      rw [if_pos (by decide)]
    · unfold fb_X12_hand_28 fl_X12_hand_28
      rw [if_pos (by decide)]
  | succ y ih =>
    intro f1 f2 B cn x v hR hL hB hy hf1 hf2
    obtain ⟨f1, rfl⟩ : ∃ m, f1 = m + 1 := ⟨f1 - 1, by omega⟩
    obtain ⟨f2, rfl⟩ : ∃ m, f2 = m + 1 := ⟨f2 - 1, by omega⟩
    obtain ⟨bx, bm⟩ := bit_k bits (k := y) (by omega)
    obtain ⟨r, w2, F2, a1, a2, a3, a4, a5, a6, a7, a8, a9⟩ := hear_rel (b := nI (bits.toBitVec.toNat / 2 ^ y % 2)) hR hL (isb_of (Nat.mod_lt _ (by decide))) (by omega)
    have hL2 : LimM (v.1, F2, v.2.2) w2 := LimM_of hL a4 a5 rfl
    rw [nI_pred]
    have fin : ∀ cn2 : Int32, ∃ (r : Int32) (w3 : V10) (F3 : Nat → Int32), fb_X11_hand_20 f1 (w2, x.2) bits cn2 (nI y - 1) = some (r, (w3, x.2)) ∧ fb_X12_hand_28 f2 (v.1, F2, v.2.2) bits cn2 (nI y - 1) = some (r, (v.1, F3, v.2.2)) ∧ R (B + (y + 1)) w3 F3 ∧ w3.2.2.2.2.2.2.2.1 = x.1.2.2.2.2.2.2.2.1 ∧ ∀ j, 942 ≤ j → F3 j = v.2.1 j := by
      intro cn2
      obtain ⟨r, w3, F3, b1, b2, b3, b6, b7⟩ := ih f1 f2 (B + 1) cn2 (w2, x.2) (v.1, F2, v.2.2) a3 hL2 (by omega) (by omega) (by omega) (by omega)
      refine ⟨r, w3, F3, b1, b2, by rw [show B + (y + 1) = B + 1 + y by omega]; exact b3, by rw [b6]; exact a7, fun j hj => ?_⟩
      rw [b7 j hj]
      exact a8 j hj
    have hX : fb_X11_hand_20 (f1 + 1) x bits cn (nI y) = (if r = 0 then fb_X11_hand_20 f1 (w2, x.2) bits cn (nI y - 1) else fb_X11_hand_20 f1 (w2, x.2) bits (cn + 1) (nI y - 1)) := by
      show fl_X11_hand_20 (fb_X11_hand_20 f1) x bits cn (nI y) = _
      unfold fl_X11_hand_20
      rw [if_neg (nI_pos (by omega)), bx, a1, bnd2_s, bnd_e, bnd_e, bnd_e, add_m1]
    have hM : fb_X12_hand_28 (f2 + 1) v bits cn (nI y) = (if r = 0 then fb_X12_hand_28 f2 (v.1, F2, v.2.2) bits (cn + 0) (nI y - 1) else fb_X12_hand_28 f2 (v.1, F2, v.2.2) bits (cn + 1) (nI y - 1)) := by
      show fl_X12_hand_28 (fb_X12_hand_28 f2) v bits cn (nI y) = _
      unfold fl_X12_hand_28
      rw [if_neg (nI_pos (by omega)), bm, a2, bnd2_s, bnd_e, bnd_e, bnd_e, bnd_e, add_m1]
    rw [hX, hM, Int32.add_zero]
    by_cases hr : r = 0
    · rw [if_pos hr, if_pos hr]
      exact fin cn
    · rw [if_neg hr, if_neg hr]
      exact fin (cn + 1)
end DR
