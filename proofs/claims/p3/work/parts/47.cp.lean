section CP
theorem R.frame {B : Nat} {w : V10} {F F2 : Nat → Int32} (hR : R B w F) (e : ∀ j, j < 942 → F2 j = F j) : R B w F2 := by
  obtain ⟨c, lg, W, BL, o, hSV, hS, hLm, hO, hC, hP, hQ, hRr, w25, w26, w27, w28, w29, w30, wst⟩ := hR
  refine ⟨c, lg, W, BL, o, hSV, hS.frame (fun j hj => e j (by omega)), hLm, hO.frame (fun j a1 a2 => e j (by omega)), hC.frame (fun j a1 a2 => e j (by omega)), hP.frame (fun j a1 a2 => e j (by omega)), hQ.frame (fun j hj => e j (by omega)), hRr.frame (fun j a1 a2 => e j (by omega)), ?_, ?_, ?_, ?_, ?_, fun h => ⟨?_, ?_⟩, wst⟩
  · rw [e 25 (by omega)]; exact w25
  · rw [e 26 (by omega)]; exact w26
  · rw [e 27 (by omega)]; exact w27
  · rw [e 28 (by omega)]; exact w28
  · rw [e 29 (by omega)]; exact w29
  · rw [e 30 (by omega)]; exact (w30 h).1
  · rw [e 701 (by omega)]; exact (w30 h).2
theorem R.mono {B B2 : Nat} {w : V10} {F : Nat → Int32} (hR : R B w F) (h : B ≤ B2) : R B2 w F := by
  obtain ⟨c, lg, W, BL, o, hSV, hS, hLm, hO, hC, hq⟩ := hR
  exact ⟨c, lg, W, BL, o, hSV, hS, hLm, hO, hC.mono h, hq⟩
/-- a block to another -/
theorem copies_loop {a b : Nat} (ha : a ≤ 4) (hb : b ≤ 4) (hab : a ≠ b) : ∀ (d fu k : Nat) (v : V12), k + d = 945 → d < fu → ∃ F2 : Nat → Int32, fb_X12_copies_2 fu v (nI a) (nI b) (nI k) = some (v.1, F2, v.2.2) ∧ (∀ j, k ≤ j → j < 945 → F2 (945 * b + j) = v.2.1 (945 * a + j)) ∧ (∀ j, j < 945 * b + k ∨ 945 * b + 945 ≤ j → F2 j = v.2.1 j) := by
  intro d
  induction d with
  | zero =>
    intro fu k v hk hf
    obtain ⟨fu, rfl⟩ : ∃ m, fu = m + 1 := ⟨fu - 1, by omega⟩
    have hk : k = 945 := by omega
    subst hk
    refine ⟨v.2.1, ?_, fun j q1 q2 => absurd q2 (by omega), fun _ _ => rfl⟩
    unfold fb_X12_copies_2 fl_X12_copies_2
    rw [if_pos (show (945 : Int32) ≤ nI 945 by decide)]
  | succ d ih =>
    intro fu k v hk hf
    obtain ⟨fu, rfl⟩ : ∃ m, fu = m + 1 := ⟨fu - 1, by omega⟩
    obtain ⟨F2, i1, i2, i3⟩ := ih fu (k + 1) (v.1, upd v.2.1 (945 * b + k) (v.2.1 (945 * a + k)), v.2.2) (by omega) (by omega)
    refine ⟨F2, ?_, fun j q1 q2 => ?_, fun j hj => ?_⟩
    · unfold fb_X12_copies_2 fl_X12_copies_2
      rw [if_neg (show ¬ (945 : Int32) ≤ nI k from nI_ge (b := 945) (by omega) (by decide)), show (945 : Int32) * nI a + nI k = nI (945 * a + k) from by show nI 945 * nI a + nI k = _; rw [pk_mul, nI_add], show (945 : Int32) * nI b + nI k = nI (945 * b + k) from by show nI 945 * nI b + nI k = _; rw [pk_mul, nI_add]]
      rw [chk_nI (by omega) (by decide), chk_nI (by omega) (by decide), nI_clamp (by omega), nI_clamp (by omega), bnd_e, bnd_e, nI_1]
      exact i1
    · by_cases hj : j = k
      · subst hj
        rw [i3 _ (Or.inl (by omega))]
        exact upd_s _ _ _
      · rw [i2 j (by omega) q2]
        exact upd_n (by omega)
    · rw [i3 j (by omega)]
      exact upd_n (by omega)
theorem m_copies {a b : Nat} (ha : a ≤ 4) (hb : b ≤ 4) (hab : a ≠ b) (v : V12) : ∃ F2 : Nat → Int32, f_X12_copies v (nI a) (nI b) = some (v.1, F2, v.2.2) ∧ (∀ j, j < 945 → F2 (945 * b + j) = v.2.1 (945 * a + j)) ∧ (∀ j, j < 945 * b ∨ 945 * b + 945 ≤ j → F2 j = v.2.1 j) := by
  obtain ⟨F2, i1, i2, i3⟩ := copies_loop ha hb hab 945 FU 0 v (by omega) (by show 945 < 8589934592; omega)
  exact ⟨F2, i1, fun j hj => i2 j (by omega) hj, fun j hj => i3 j (by omega)⟩
theorem nar_b (x : Int32) : vp_nar .byte x = x.toInt8.toInt32 := rfl
theorem nar_low (x : Int32) : vp_nar .byte x &&& 255 = x &&& 255 := by
  rw [nar_b, i8_low, pk_and x 8 (by decide)]
theorem text_loop {a b : Nat} (ha : a ≤ 4) (hb : b ≤ 4) (hab : a ≠ b) : ∀ (d fu k : Nat) (v : V12), k + d = 300 → d < fu → ∃ t2 : Nat → Int32, fb_X12_copiesText_8 fu v (nI a) (nI b) (nI k) = some (v.1, v.2.1, t2, v.2.2.2) ∧ (∀ j, k ≤ j → j < 300 → t2 (300 * b + j) &&& 255 = v.2.2.1 (300 * a + j) &&& 255) ∧ (∀ j, j < 300 * b + k ∨ 300 * b + 300 ≤ j → t2 j = v.2.2.1 j) := by
  intro d
  induction d with
  | zero =>
    intro fu k v hk hf
    obtain ⟨fu, rfl⟩ : ∃ m, fu = m + 1 := ⟨fu - 1, by omega⟩
    have hk : k = 300 := by omega
    subst hk
    refine ⟨v.2.2.1, ?_, fun j q1 q2 => absurd q2 (by omega), fun _ _ => rfl⟩
    unfold fb_X12_copiesText_8 fl_X12_copiesText_8
    rw [if_pos (show (300 : Int32) ≤ nI 300 by decide)]
  | succ d ih =>
    intro fu k v hk hf
    obtain ⟨fu, rfl⟩ : ∃ m, fu = m + 1 := ⟨fu - 1, by omega⟩
    obtain ⟨t2, i1, i2, i3⟩ := ih fu (k + 1) (v.1, v.2.1, upd v.2.2.1 (300 * b + k) (vp_nar .byte (v.2.2.1 (300 * a + k))), v.2.2.2) (by omega) (by omega)
    refine ⟨t2, ?_, fun j q1 q2 => ?_, fun j hj => ?_⟩
    · unfold fb_X12_copiesText_8 fl_X12_copiesText_8
      rw [if_neg (show ¬ (300 : Int32) ≤ nI k from nI_ge (b := 300) (by omega) (by decide)), show (300 : Int32) * nI a + nI k = nI (300 * a + k) from by show nI 300 * nI a + nI k = _; rw [pk_mul, nI_add], show (300 : Int32) * nI b + nI k = nI (300 * b + k) from by show nI 300 * nI b + nI k = _; rw [pk_mul, nI_add]]
      rw [chk_nI (by omega) (by decide), chk_nI (by omega) (by decide), nI_clamp (by omega), nI_clamp (by omega), bnd_e, bnd_e, nI_1]
      exact i1
    · by_cases hj : j = k
      · subst hj
        rw [i3 _ (Or.inl (by omega))]
        show upd v.2.2.1 _ _ _ &&& 255 = _
        rw [upd_s, nar_low]
      · rw [i2 j (by omega) q2]
        show upd v.2.2.1 _ _ _ &&& 255 = _
        rw [upd_n (by omega)]
    · rw [i3 j (by omega)]
      exact upd_n (by omega)
theorem m_text {a b : Nat} (ha : a ≤ 4) (hb : b ≤ 4) (hab : a ≠ b) (v : V12) : ∃ F2 t2 : Nat → Int32, f_X12_copiesText v (nI a) (nI b) = some (v.1, F2, t2, v.2.2.2) ∧ (∀ j, j < 945 → F2 (945 * b + j) = v.2.1 (945 * a + j)) ∧ (∀ j, j < 945 * b ∨ 945 * b + 945 ≤ j → F2 j = v.2.1 j) ∧ (∀ j, j < 300 → t2 (300 * b + j) &&& 255 = v.2.2.1 (300 * a + j) &&& 255) ∧ (∀ j, j < 300 * b ∨ 300 * b + 300 ≤ j → t2 j = v.2.2.1 j) := by
  obtain ⟨F2, i1, i2, i3⟩ := m_copies ha hb hab v
  obtain ⟨t2, k1, k2, k3⟩ := text_loop ha hb hab 300 FU 0 (v.1, F2, v.2.2) (by omega) (by show 300 < 8589934592; omega)
  refine ⟨F2, t2, ?_, i2, i3, fun j hj => k2 j (by omega) hj, fun j hj => k3 j (by omega)⟩
  unfold f_X12_copiesText
  rw [i1, bnd1_s]
  exact k1
theorem cpk {n i : Nat} (f g : Nat → Int32) (h : i < n) : va_cpy f g 0 0 n i = f i := (pk_cpy_in (Nat.zero_le i) (by omega)).trans (congrArg f (by omega))
theorem cp7 (s0 s : V7) : ∃ s2 : V7, f_X7_copyFrom s0 s = some s2 ∧ (∀ k, k < 9 → s2.1 k = s.1 k) ∧ (∀ k, k < 4 → s2.2.1 k = s.2.1 k ∧ s2.2.2.1 k = s.2.2.1 k ∧ s2.2.2.2.1 k = s.2.2.2.1 k) ∧ s2.2.2.2.2 = s.2.2.2.2 := by
  refine ⟨(va_cpy s.1 s0.1 0 0 9, va_cpy s.2.1 s0.2.1 0 0 4, va_cpy s.2.2.1 s0.2.2.1 0 0 4, va_cpy s.2.2.2.1 s0.2.2.2.1 0 0 4, s.2.2.2.2), ?_, fun k h => cpk _ _ h, fun k h => ⟨cpk _ _ h, cpk _ _ h, cpk _ _ h⟩, rfl⟩
  unfold f_X7_copyFrom chkcp
  rw [bnd_e, if_neg (by decide), bnd_e, if_neg (by decide), bnd_e, if_neg (by decide), bnd_e, if_neg (by decide), bnd_e]
  rfl
theorem cp4 (q0 q : V4) : ∃ q2 : V4, f_X4_copyFrom q0 q = some q2 ∧ (∀ k, k < 512 → q2.1 k = q.1 k) ∧ q2.2.1 = q.2.1 ∧ q2.2.2 = q.2.2 := by
  refine ⟨(va_cpy q.1 q0.1 0 0 512, q.2.1, q.2.2), ?_, fun k h => cpk _ _ h, rfl, rfl⟩
  unfold f_X4_copyFrom chkcp
  rw [if_neg (by decide), bnd_e]
  rfl
theorem cp6 (q0 q : V6) : ∃ q2 : V6, f_X6_copyFrom q0 q = some q2 ∧ (∀ k, k < 15 → q2.1 k = q.1 k ∧ q2.2.1 k = q.2.1 k) ∧ q2.2.2 = q.2.2 := by
  refine ⟨(va_cpy q.1 q0.1 0 0 15, va_cpy q.2.1 q0.2.1 0 0 15, q.2.2), ?_, fun k h => ⟨cpk _ _ h, cpk _ _ h⟩, rfl⟩
  unfold f_X6_copyFrom chkcp
  rw [if_neg (by decide), bnd_e, if_neg (by decide), bnd_e]
  rfl
theorem cp9 (q0 q : V9) : ∃ q2 : V9, f_X9_copyFrom q0 q = some q2 ∧ (∀ k, k < 300 → q2.1 k = q.1 k) ∧ q2.2 = q.2 := by
  refine ⟨(va_cpy q.1 q0.1 0 0 300, q.2.1, q.2.2.1, q.2.2.2), ?_, fun k h => cpk _ _ h, rfl⟩
  unfold f_X9_copyFrom chkcp
  rw [if_neg (by decide), bnd_e]
  rfl
theorem RQ.copy {a o mx : Nat} {q q2 : V4} {F : Nat → Int32} (h : RQ a o mx q F) (e1 : ∀ k, k < 512 → q2.1 k = q.1 k) (e2 : q2.2.1 = q.2.1) (e3 : q2.2.2 = q.2.2) : RQ a o mx q2 F := by
  obtain ⟨n, i, h1, h2, h3, h4, h5, h6⟩ := h
  refine ⟨n, i, h1, h2, by rw [e3]; exact h3, by rw [e2]; exact h4, h5, fun k hk => ?_⟩
  rw [e1 _ (Nat.mod_lt _ (by decide))]
  exact h6 k hk
/-- a copy of a watch stands where the watch stood -/
theorem copy_rel {B : Nat} {w : V10} {F : Nat → Int32} (w0 : V10) (hR : R B w F) : ∃ w2 : V10, f_X10_copyFrom w0 w = some w2 ∧ R B w2 F ∧ (∀ k, k < 300 → w2.2.2.2.2.2.2.2.1.1 k = w.2.2.2.2.2.2.2.1.1 k) ∧ w2.2.2.2.2.2.2.2.1.2 = w.2.2.2.2.2.2.2.1.2 := by
  obtain ⟨s, lm, src, cn, ⟨pq, pr⟩, q, rs, tx, st, fa, al, sts, li, si⟩ := w
  obtain ⟨s0, lm0, src0, cn0, ⟨pq0, pr0⟩, q0, rs0, tx0, zz0⟩ := w0
  obtain ⟨s2, a1, a2, a3, a4⟩ := cp7 s0 s
  obtain ⟨p2, b1, b2, b3, b4⟩ := cp4 pq0 pq
  obtain ⟨q2, c1, c2, c3, c4⟩ := cp4 q0 q
  obtain ⟨r2, d1, d2, d3⟩ := cp6 rs0 rs
  obtain ⟨t2, e1, e2, e3⟩ := cp9 tx0 tx
  obtain ⟨c, lg, W, BL, o, hSV, hS, hLm, hO, hC, hP, hQ, hRr, hW⟩ := hR
  dsimp only at hSV hS hLm hO hC hP hQ hRr
  refine ⟨(s2, (lm0.1, lm0.2.1, lm.2.2.1, lm.2.2.2.1, lm.2.2.2.2), src, cn, (p2, pr), q2, r2, t2, st, fa, al, sts, li, si), ?_, ⟨c, lg, W, BL, o, ?_, ?_, hLm, hO, hC, ?_, hQ.copy c2 c3 c4, ?_, hW⟩, e2, e3⟩
  · unfold f_X10_copyFrom f_X8_copyFrom f_X1_copyFrom f_X3_copyFrom
    dsimp only
    rw [a1, bnd1_s, bnd1_s, bnd1_s, b1, bnd1_s, bnd1_s, c1, bnd1_s, d1, bnd1_s, e1, bnd1_s]
  · obtain ⟨g1, g2, g3, g4, g5, g6, g7, g8, g9, g10, g11, g12, g13⟩ := hSV
    refine ⟨?_, g2, g3, ?_, g5, g6, ?_, g8, g9, ?_, g11, g12, ?_⟩
    · rw [a2 0 (by omega)]; exact g1
    · rw [a2 1 (by omega)]; exact g4
    · rw [a2 2 (by omega)]; exact g7
    · rw [a2 4 (by omega)]; exact g10
    · rw [a2 5 (by omega)]; exact g13
  · obtain ⟨g1, n, g2, g3, g4, g5⟩ := hS
    refine ⟨fun k hk => by rw [a2 k hk]; exact g1 k hk, n, g2, by rw [a4]; exact g3, g4, fun k hk => ?_⟩
    obtain ⟨z1, z2, z3⟩ := a3 k (by omega)
    rw [z1, z2, z3]
    exact g5 k hk
  · exact ⟨hP.1.copy b2 b3 b4, hP.2⟩
  · obtain ⟨n, g1, g2, g3, g4⟩ := hRr
    refine ⟨n, g1, by rw [d3]; exact g2, g3, fun i hi => ?_⟩
    obtain ⟨z1, z2⟩ := d2 i (by omega)
    rw [z1, z2]
    exact g4 i hi
theorem RT.copy {t t2 : V9} {F tx F2 tx2 : Nat → Int32} (h : RT t F tx) (e1 : ∀ k, k < 300 → t2.1 k = t.1 k) (e2 : t2.2 = t.2) (e : ∀ j, 942 ≤ j → j < 945 → F2 j = F j) (ex : ∀ j, j < 300 → tx2 j &&& 255 = tx j &&& 255) : RT t2 F2 tx2 := by
  obtain ⟨n, h1, h2, h3, h4, h5, h6⟩ := h
  refine ⟨n, h1, by rw [e2]; exact h2, by rw [e 942 (by omega) (by omega)]; exact h3, by rw [e 943 (by omega) (by omega), e2]; exact h4, by rw [e 944 (by omega) (by omega), e2]; exact h5, fun k hk => ?_⟩
  obtain ⟨b, g1, g2, g3, g4⟩ := h6 k hk
  exact ⟨b, g1, g2, by rw [e1 k (by omega)]; exact g3, by rw [ex k (by omega)]; exact g4⟩
end CP
