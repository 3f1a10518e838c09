section AL
theorem R.virt {B : Nat} {w : V10} {F : Nat → Int32} (hR : R B w F) {c lg : Nat} (c1 : 8 ≤ c) (c2 : c ≤ 15) (l1 : 1 ≤ lg) (l2 : lg ≤ 40) : ∃ W : Nat, 4 ≤ W ∧ W ≤ 15 ∧ w.1.1 2 = nI W ∧ R B ((upd (upd w.1.1 0 (nI c)) 1 (nI lg), w.1.2), (w.2.1.1, w.2.1.2.1, nI (lmR c lg), nI (lmP c lg W), nI (lmC lg W)), w.2.2.1, w.2.2.2.1, w.2.2.2.2.1, w.2.2.2.2.2.1, w.2.2.2.2.2.2.1, w.2.2.2.2.2.2.2.1, w.2.2.2.2.2.2.2.2.1, w.2.2.2.2.2.2.2.2.2.1, 0, w.2.2.2.2.2.2.2.2.2.2.2.1, w.2.2.2.2.2.2.2.2.2.2.2.2.1, w.2.2.2.2.2.2.2.2.2.2.2.2.2) (upd (upd (upd F 0 (nI c)) 1 (nI lg)) 27 0) := by
  obtain ⟨c0, lg0, W, BL, o, hSV, hS, hLm, hO, hC, hP, hQ, hRr, w25, w26, w27, w28, w29, w30, wst⟩ := hR
  obtain ⟨g0, g1, g2, g3, g4, g5, g6, g7, g8, g9, g10, g11, g12, g13, g14⟩ := hSV
  have e : ∀ j, j ≠ 0 → j ≠ 1 → j ≠ 27 → upd (upd (upd F 0 (nI c)) 1 (nI lg)) 27 0 j = F j := fun j h0 h1 h2 => by
    rw [upd_n h2, upd_n h1, upd_n h0]
  refine ⟨W, g7, g8, g6, c, lg, W, BL, o, ⟨?_, c1, c2, ?_, l1, l2, ?_, g7, g8, ?_, g10, g11, ?_, g13, g14⟩, ⟨fun k hk => ?_, ?_⟩, ⟨rfl, rfl, rfl⟩, hO.frame (fun j a1 a2 => e j (by omega) (by omega) (by omega)), hC.frame (fun j a1 a2 => e j (by omega) (by omega) (by omega)), hP.frame (fun j a1 a2 => e j (by omega) (by omega) (by omega)), hQ.frame (fun j hj => e j (by omega) (by omega) (by omega)), hRr.frame (fun j a1 a2 => e j (by omega) (by omega) (by omega)), ?_, ?_, ?_, ?_, ?_, fun h => ⟨?_, ?_⟩, wst⟩
  · show upd (upd w.1.1 0 (nI c)) 1 (nI lg) 0 = _
    rw [upd_n (by decide), upd_s]
  · show upd (upd w.1.1 0 (nI c)) 1 (nI lg) 1 = _
    rw [upd_s]
  · show upd (upd w.1.1 0 (nI c)) 1 (nI lg) 2 = _
    rw [upd_n (by decide), upd_n (by decide)]; exact g6
  · show upd (upd w.1.1 0 (nI c)) 1 (nI lg) 4 = _
    rw [upd_n (by decide), upd_n (by decide)]; exact g9
  · show upd (upd w.1.1 0 (nI c)) 1 (nI lg) 5 = _
    rw [upd_n (by decide), upd_n (by decide)]; exact g12
  · show upd (upd (upd F 0 (nI c)) 1 (nI lg)) 27 0 k = upd (upd w.1.1 0 (nI c)) 1 (nI lg) k
    rw [upd_n (show k ≠ 27 by omega)]
    by_cases h1 : k = 1
    · rw [h1, upd_s, upd_s]
    · rw [upd_n h1, upd_n h1]
      by_cases h0 : k = 0
      · rw [h0, upd_s, upd_s]
      · rw [upd_n h0, upd_n h0]; exact hS.1 k hk
  · obtain ⟨n, n1, n2, n3, n4⟩ := hS.2
    refine ⟨n, n1, n2, by rw [e 9 (by omega) (by omega) (by omega)]; exact n3, fun k hk => ?_⟩
    rw [e (10 + 3 * k) (by omega) (by omega) (by omega), e (11 + 3 * k) (by omega) (by omega) (by omega), e (12 + 3 * k) (by omega) (by omega) (by omega)]
    exact n4 k hk
  · rw [e 25 (by omega) (by omega) (by omega)]; exact w25
  · rw [e 26 (by omega) (by omega) (by omega)]; exact w26
  · exact upd_s _ _ _
  · rw [e 28 (by omega) (by omega) (by omega)]; exact w28
  · rw [e 29 (by omega) (by omega) (by omega)]; exact w29
  · rw [e 30 (by omega) (by omega) (by omega)]; exact (w30 h).1
  · rw [e 701 (by omega) (by omega) (by omega)]; exact (w30 h).2
theorem alarms_loop {v1 : V12} {H : Nat} (hH : H ≤ 400) (hbit : ∀ k, k < H → isb (v1.2.1 (4081 + k))) : ∀ (d fu k B : Nat) (w : V10) (v : V12), k + d = H → d < fu → R B w v.2.1 → LimM v w → B + d < 2 ^ 30 → (∀ j, 942 ≤ j → v.2.1 j = v1.2.1 j) → v.2.2.1 = v1.2.2.1 → v.2.2.2.1 = v1.2.2.2.1 → ∃ (r : Int32) (v3 v4 : V12), fb_X12_alarms_48 fu v (nI H) (nI k) = some (r, v4) ∧ f_X12_copies v3 4 0 = some v4 ∧ (∀ j, 942 ≤ j → v3.2.1 j = v1.2.1 j) ∧ v3.2.2.1 = v1.2.2.1 ∧ v3.2.2.2.1 = v1.2.2.2.1 := by
  intro d
  induction d with
  | zero =>
    intro fu k B w v hk hf hR hL hB h1 h2 h3
    obtain ⟨fu, rfl⟩ : ∃ m, fu = m + 1 := ⟨fu - 1, by omega⟩
    obtain ⟨F4, f0, f1, f2⟩ := m_copies (a := 4) (b := 0) (by decide) (by decide) (by decide) v
    refine ⟨v.2.1 27, v, (v.1, F4, v.2.2), ?_, f0, h1, h2, h3⟩
    show fl_X12_alarms_48 (fb_X12_alarms_48 fu) _ _ _ = _
    unfold fl_X12_alarms_48 f_X12_back
    rw [if_pos (nI_le (by omega) (by omega)), chk_in (show vp_in (27 : Int32) 4725 by unfold vp_in; decide), show ((27 : Int32)).toNatClampNeg = 27 from rfl, show f_X12_copies v (4 : Int32) (0 : Int32) = _ from f0, bnd1_s, bnd2_s]
  | succ d ih =>
    intro fu k B w v hk hf hR hL hB h1 h2 h3
    obtain ⟨fu, rfl⟩ : ∃ m, fu = m + 1 := ⟨fu - 1, by omega⟩
    have hb : isb (v.2.1 (4081 + k)) := by rw [h1 (4081 + k) (by omega)]; exact hbit k (by omega)
    obtain ⟨r, w2, F2, b1, b2, b3, b4, b5, b6, b7, b8, b9⟩ := hear_rel hR hL hb (by omega)
    show ∃ (r : Int32) (v3 v4 : V12), fl_X12_alarms_48 (fb_X12_alarms_48 fu) v (nI H) (nI k) = some (r, v4) ∧ f_X12_copies v3 4 0 = some v4 ∧ (∀ j, 942 ≤ j → v3.2.1 j = v1.2.1 j) ∧ v3.2.2.1 = v1.2.2.1 ∧ v3.2.2.2.1 = v1.2.2.2.1
    unfold fl_X12_alarms_48
    rw [if_neg (nI_ge (by omega) (by omega)), show (4081 : Int32) + nI k = nI (4081 + k) from nI_add 4081 k, chk_nI (by omega) (by decide), nI_clamp (by omega), bnd_e, b2, bnd2_s, chk_in (show vp_in (25 : Int32) 4725 by unfold vp_in; decide), show ((25 : Int32)).toNatClampNeg = 25 from rfl]
    dsimp only
    have hL2 : LimM (v.1, F2, v.2.2) w2 := LimM_of hL b4 b5 rfl
    have h1' : ∀ j, 942 ≤ j → F2 j = v1.2.1 j := fun j hj => (b8 j hj).trans (h1 j hj)
    by_cases h : F2 25 = 3
    · obtain ⟨w3, F3, s1, s2, s3, s4, s5, s6, s7, s8, s9, s10, s11, s12⟩ := starts_rel (v := (v.1, F2, v.2.2)) b3
      rw [if_pos h, s2, bnd1_s, bnd_e, nI_1]
      exact ih fu (k + 1) (B + 1) w3 (v.1, F3, v.2.2) (by omega) (by omega) s3 (LimM_of hL2 s4 s5 rfl) (by omega) (fun j hj => (s12 j hj).trans (h1' j hj)) h2 h3
    · rw [if_neg h, bnd_e, nI_1]
      exact ih fu (k + 1) (B + 1) w2 (v.1, F2, v.2.2) (by omega) (by omega) b3 hL2 (by omega) h1' h2 h3
theorem alarms_ok {B : Nat} {w : V10} {v : V12} (hR : R B w v.2.1) (hB : B + 400 < 2 ^ 30) {c lg : Nat} (c1 : 8 ≤ c) (c2 : c ≤ 15) (l1 : 1 ≤ lg) (l2 : lg ≤ 40) : ∃ (r : Int32) (v2 : V12), f_X12_alarms v (nI c) (nI lg) = some (r, v2) ∧ SA v v2 := by
  obtain ⟨F1, p0, p1, p2⟩ := m_copies (a := 0) (b := 4) (by decide) (by decide) (by decide) v
  have hR1 : R B w F1 := hR.frame (fun j hj => p2 j (by omega))
  obtain ⟨W, w1, w2, w3, hV⟩ := hR1.virt c1 c2 l1 l2
  obtain ⟨v1, q1, q2, q3, q4, q5, q6⟩ := lays2 (v := (v.1, upd (upd (upd F1 0 (nI c)) 1 (nI lg)) 27 0, v.2.2)) hV
  have hV2 := hV
  rw [show upd (upd (upd F1 0 (nI c)) 1 (nI lg)) 27 0 = v1.2.1 from q4.symm] at hV2
  obtain ⟨w4, F3, s1, s2, s3, s4, s5, s6, s7, s8, s9, s10, s11, s12⟩ := starts_rel hV2
  obtain ⟨-, -, -, -, -, -, -, -, -, -, -, hQ, -⟩ := hR
  obtain ⟨H, h, h1, h2, h3, h4, h5, h6⟩ := hQ
  have hc : ∀ j, 942 ≤ j → F3 j = F1 j := fun j hj => by
    rw [s12 j hj, q4]
    show upd (upd (upd F1 0 (nI c)) 1 (nI lg)) 27 0 j = F1 j
    rw [upd_n (by omega), upd_n (by omega), upd_n (by omega)]
  have hbit : ∀ k, k < H → isb (F1 (4081 + k)) := fun k hk => by
    have e1 := p1 (301 + k) (by omega)
    rw [show 945 * 4 + (301 + k) = 4081 + k by omega, show 945 * 0 + (301 + k) = 301 + k by omega] at e1
    rw [e1]
    exact (h6 k hk).2
  obtain ⟨r, v3, v4, a1, a2, a3, a4, a5⟩ := alarms_loop (v1 := (v.1, F1, v.2.2)) h1 hbit H FU 0 B w4 (v1.1, F3, v1.2.2) (by omega) (by show H < 8589934592; omega) s3 (LimM_of q2 s4 s5 rfl) (by omega) hc q5 q6
  obtain ⟨F4, f0, f1, f2⟩ := m_copies (a := 4) (b := 0) (by decide) (by decide) (by decide) v3
  have e4 : v4 = (v3.1, F4, v3.2.2) := Option.some.inj (a2.symm.trans f0)
  subst e4
  refine ⟨r, (v3.1, F4, v3.2.2), ?_, m_back (v := v) (v1 := (v.1, F1, v.2.2)) (v2 := v3) p1 p2 a3 f1 f2, a4, a5⟩
  unfold f_X12_alarms
  rw [show f_X12_copies v (0 : Int32) (4 : Int32) = _ from p0, bnd1_s, chk_in (show vp_in (300 : Int32) 4725 by unfold vp_in; decide), bnd_e, chk_in (show vp_in (0 : Int32) 4725 by unfold vp_in; decide), bnd_e, chk_in (show vp_in (1 : Int32) 4725 by unfold vp_in; decide), bnd_e, chk_in (show vp_in (27 : Int32) 4725 by unfold vp_in; decide), bnd_e, show ((300 : Int32)).toNatClampNeg = 300 from rfl, show ((0 : Int32)).toNatClampNeg = 0 from rfl, show ((1 : Int32)).toNatClampNeg = 1 from rfl, show ((27 : Int32)).toNatClampNeg = 27 from rfl]
  dsimp only
  rw [q1, bnd1_s, s2, bnd1_s, p2 300 (by omega), h5]
  exact a1
theorem x_hear100 (v : V1) (x t : Int32) : ∃ c2 : V1, fc_X1_hear_100 v x t = some c2 := by
  unfold fc_X1_hear_100
  rw [bnd_e]
  exact ⟨_, rfl⟩
theorem x_hear74 (v : V1) (x : Int32) : ∃ c2 : V1, fc_X1_hear_74 v x = some c2 := by
  unfold fc_X1_hear_74 fc_X1_hear_99
  by_cases h : v.1 ≤ 0
  · rw [if_pos h]; exact x_hear100 _ _ _
  · rw [if_neg h]
    by_cases h2 : x = v.2.1
    · rw [if_pos h2]; exact x_hear100 _ _ _
    · rw [if_neg h2]; exact x_hear100 _ _ _
theorem x_hear56 (v : V1) (x : Int32) : ∃ c2 : V1, fc_X1_hear_56 v x = some c2 := by
  unfold fc_X1_hear_56
  by_cases h : x = v.2.2.2.1
  · rw [if_pos h, bnd_e]; exact x_hear74 _ _
  · rw [if_neg h]; exact x_hear74 _ _
theorem x_hear23 (v : V1) (x : Int32) : ∃ c2 : V1, fc_X1_hear_23 v x = some c2 := by
  unfold fc_X1_hear_23
  by_cases h : v.2.2.1 = 0
  · rw [if_pos h]; exact x_hear56 _ _
  · rw [if_neg h]
    by_cases h2 : x = v.2.1
    · rw [if_pos h2]; exact x_hear56 _ _
    · rw [if_neg h2, bnd_e]; exact x_hear56 _ _
theorem x_hearO (v : V1) (x y : Int32) : ∃ c2 : V1, f_X1_hear v x y = some c2 := by
  unfold f_X1_hear
  by_cases h : v.2.2.1 < y
  · rw [if_pos h]; exact x_hear23 _ _
  · rw [if_neg h]; exact x_hear23 _ _
theorem x_fail32 (L : V2) (c : V1) (x : Int32) : ∃ r : Int32, fc_X2_failures_32 L c x = some r := by
  unfold fc_X2_failures_32
  by_cases h : c.2.2.2.2.2 < L.2.2.2.2
  · rw [if_pos h]; exact ⟨_, rfl⟩
  · rw [if_neg h, bnd_e]; exact ⟨_, rfl⟩
theorem x_fail16 (L : V2) (c : V1) (x : Int32) : ∃ r : Int32, fc_X2_failures_16 L c x = some r := by
  unfold fc_X2_failures_16
  by_cases h : c.2.2.2.2.1 < L.2.2.2.1
  · rw [if_pos h]; exact x_fail32 _ _ _
  · rw [if_neg h, bnd_e]; exact x_fail32 _ _ _
theorem x_failO (L : V2) (c : V1) : ∃ r : Int32, f_X2_failures L c = some r := by
  unfold f_X2_failures
  by_cases h : c.1 < L.2.2.1
  · rw [if_pos h]; exact x_fail16 _ _ _
  · rw [if_neg h]; exact x_fail16 _ _ _
theorem x_replay {w : V10} {H : Nat} (hH : H ≤ 400) (hlen : w.2.2.2.2.2.1.2.2 = nI H) (hat : ∀ k, k < H → ∃ b : Int32, f_X4_bitAt w.2.2.2.2.2.1 (nI k) = some b) (x2 : Int32) : ∀ (d fu k : Nat) (x3 : Int32) (v0 : V11), v0.1 = w → k + d = H → d < fu → ∃ (r : Int32) (u : V11), fb_X11_replayed_64 fu v0 x2 x3 (nI k) = some (r, u) ∧ u.1 = w := by
  intro d
  induction d with
  | zero =>
    intro fu k x3 v0 hw hk hf
    obtain ⟨fu, rfl⟩ : ∃ m, fu = m + 1 := ⟨fu - 1, by omega⟩
    refine ⟨x3, v0, ?_, hw⟩
    show fl_X11_replayed_64 (fb_X11_replayed_64 fu) _ _ _ _ = _
    unfold fl_X11_replayed_64
    rw [hw, hlen, if_pos (nI_le (by omega) (by omega))]
  | succ d ih =>
    intro fu k x3 v0 hw hk hf
    obtain ⟨fu, rfl⟩ : ∃ m, fu = m + 1 := ⟨fu - 1, by omega⟩
    show ∃ (r : Int32) (u : V11), fl_X11_replayed_64 (fb_X11_replayed_64 fu) v0 x2 x3 (nI k) = some (r, u) ∧ u.1 = w
    unfold fl_X11_replayed_64 f_X1_clear
    obtain ⟨b, hb⟩ := hat k (by omega)
    obtain ⟨c2, hc⟩ := x_hearO v0.2.2.2.2.2.2.1 b x2
    obtain ⟨f, hf2⟩ := x_failO v0.2.2.2.2.2.1 c2
    rw [hw, hlen, if_neg (nI_ge (by omega) (by omega)), hb, bnd1_s, hc, bnd1_s, hf2, bnd1_s]
    by_cases h : f = 0
    · rw [if_pos h, bnd_e, nI_1]
      exact ih fu (k + 1) x3 _ rfl (by omega) (by omega)
    · rw [if_neg h, bnd_e, bnd1_s, bnd_e, nI_1]
      exact ih fu (k + 1) _ _ rfl (by omega) (by omega)
theorem x_peaks {w : V10} {H : Nat} (hH : H ≤ 400) (hlen : w.2.2.2.2.2.1.2.2 = nI H) (hat : ∀ k, k < H → ∃ b : Int32, f_X4_bitAt w.2.2.2.2.2.1 (nI k) = some b) : ∀ (d fu k : Nat) (v0 : V11), v0.1 = w → k + d = H → d < fu → ∃ u : V11, fb_X11_measurePeaks_16 fu v0 (nI k) = some u ∧ u.1 = w := by
  intro d
  induction d with
  | zero =>
    intro fu k v0 hw hk hf
    obtain ⟨fu, rfl⟩ : ∃ m, fu = m + 1 := ⟨fu - 1, by omega⟩
    refine ⟨v0, ?_, hw⟩
    show fl_X11_measurePeaks_16 (fb_X11_measurePeaks_16 fu) _ _ = _
    unfold fl_X11_measurePeaks_16
    rw [hw, hlen, if_pos (nI_le (by omega) (by omega))]
  | succ d ih =>
    intro fu k v0 hw hk hf
    obtain ⟨fu, rfl⟩ : ∃ m, fu = m + 1 := ⟨fu - 1, by omega⟩
    show ∃ u : V11, fl_X11_measurePeaks_16 (fb_X11_measurePeaks_16 fu) v0 (nI k) = some u ∧ u.1 = w
    unfold fl_X11_measurePeaks_16 f_X1_raiseTo
    obtain ⟨b, hb⟩ := hat k (by omega)
    obtain ⟨c2, hc⟩ := x_hearO v0.2.2.2.2.2.2.1 b (w.1.1 2)
    rw [hw, hlen, if_neg (nI_ge (by omega) (by omega)), hb, bnd1_s, show f_X7_valueOf w.1 (2 : Int32) = f_X7_valueOf w.1 (nI 2) from rfl, val_nI _ (by decide), bnd1_s, hc, bnd1_s, bnd_e, bnd_e, bnd_e, bnd1_s, bnd_e, nI_1]
    exact ih fu (k + 1) _ rfl (by omega) (by omega)
theorem x_pass {v0 : V11} {c lg W : Nat} (hW : v0.1.1.1 2 = nI W) (c1 : 8 ≤ c) (c2 : c ≤ 15) (l1 : 1 ≤ lg) (l2 : lg ≤ 40) (w1 : 4 ≤ W) (w2 : W ≤ 15) : ∃ (r : Int32) (u : V11), f_X11_peaksPass v0 (nI c) (nI lg) = some (r, u) ∧ u.1 = v0.1 := by
  unfold f_X11_peaksPass
  obtain ⟨T, tr, ht⟩ := x_lims v0.2.2.2.2.2.1 c1 c2 l1 l2 w1 w2
  rw [show f_X7_valueOf v0.1.1 (2 : Int32) = f_X7_valueOf v0.1.1 (nI 2) from rfl, val_nI _ (by decide), bnd1_s, hW, ht, bnd1_s]
  obtain ⟨f, hf⟩ := x_failO (T, tr, nI (lmR c lg), nI (lmP c lg W), nI (lmC lg W)) v0.2.2.2.2.2.2.2
  rw [hf, bnd1_s]
  by_cases h : f = 0
  · exact ⟨1, (v0.1, v0.2.1, v0.2.2.1, v0.2.2.2.1, v0.2.2.2.2.1, (T, tr, nI (lmR c lg), nI (lmP c lg W), nI (lmC lg W)), v0.2.2.2.2.2.2), if_pos h, rfl⟩
  · exact ⟨0, (v0.1, v0.2.1, v0.2.2.1, v0.2.2.2.1, v0.2.2.2.2.1, (T, tr, nI (lmR c lg), nI (lmP c lg W), nI (lmC lg W)), v0.2.2.2.2.2.2), if_neg h, rfl⟩
theorem x_fitl {w : V10} {W lg : Nat} (hW : w.1.1 2 = nI W) (hl : w.1.1 1 = nI lg) (l1 : 1 ≤ lg) (l2 : lg ≤ 40) (w1 : 4 ≤ W) (w2 : W ≤ 15) : ∀ (d fu k : Nat) (v0 : V11), v0.1 = w → k + d = 16 → 8 ≤ k → d < fu → ∃ (r : Int32) (u : V11), fb_X11_fit_10 fu v0 (nI k) = some (r, u) ∧ u.1 = w := by
  intro d
  induction d with
  | zero =>
    intro fu k v0 hw hk h8 hf
    obtain ⟨fu, rfl⟩ : ∃ m, fu = m + 1 := ⟨fu - 1, by omega⟩
    have hk : k = 16 := by omega
    subst hk
    refine ⟨-1, v0, ?_, hw⟩
    show fl_X11_fit_10 (fb_X11_fit_10 fu) _ _ = _
    unfold fl_X11_fit_10
    rw [chk_in (show vp_in (0 : Int32) 9 by unfold vp_in; decide), if_pos (by decide)]
  | succ d ih =>
    intro fu k v0 hw hk h8 hf
    obtain ⟨fu, rfl⟩ : ∃ m, fu = m + 1 := ⟨fu - 1, by omega⟩
    show ∃ (r : Int32) (u : V11), fl_X11_fit_10 (fb_X11_fit_10 fu) v0 (nI k) = some (r, u) ∧ u.1 = w
    unfold fl_X11_fit_10
    obtain ⟨r, u, u1, u2⟩ := x_pass (v0 := v0) (c := k) (lg := lg) (by rw [hw]; exact hW) h8 (by omega) l1 l2 w1 w2
    rw [chk_in (show vp_in (0 : Int32) 9 by unfold vp_in; decide), if_neg (show ¬ stM ((0 : Int32)).toNatClampNeg < nI k from nI_nlt (a := 15) (by omega) (by decide)), show f_X7_valueOf v0.1.1 (1 : Int32) = f_X7_valueOf v0.1.1 (nI 1) from rfl, val_nI _ (by decide), bnd1_s, show v0.1.1.1 1 = nI lg by rw [hw]; exact hl, u1, bnd2_s]
    by_cases h : r = 0
    · rw [if_pos h, bnd_e, nI_1]
      exact ih fu (k + 1) _ (u2.trans hw) (by omega) (by omega) (by omega)
    · rw [if_neg h]
      exact ⟨_, _, rfl, u2.trans hw⟩
theorem x_keenl {w : V10} {W c : Nat} (hW : w.1.1 2 = nI W) (hc : w.1.1 0 = nI c) (c1 : 8 ≤ c) (c2 : c ≤ 15) (w1 : 4 ≤ W) (w2 : W ≤ 15) : ∀ (d fu k : Nat) (v0 : V11), v0.1 = w → k + d = 41 → 1 ≤ k → d < fu → ∃ (r : Int32) (u : V11), fb_X11_keen_10 fu v0 (nI k) = some (r, u) ∧ u.1 = w := by
  intro d
  induction d with
  | zero =>
    intro fu k v0 hw hk h8 hf
    obtain ⟨fu, rfl⟩ : ∃ m, fu = m + 1 := ⟨fu - 1, by omega⟩
    have hk : k = 41 := by omega
    subst hk
    refine ⟨-1, v0, ?_, hw⟩
    show fl_X11_keen_10 (fb_X11_keen_10 fu) _ _ = _
    unfold fl_X11_keen_10
    rw [chk_in (show vp_in (1 : Int32) 9 by unfold vp_in; decide), if_pos (by decide)]
  | succ d ih =>
    intro fu k v0 hw hk h8 hf
    obtain ⟨fu, rfl⟩ : ∃ m, fu = m + 1 := ⟨fu - 1, by omega⟩
    show ∃ (r : Int32) (u : V11), fl_X11_keen_10 (fb_X11_keen_10 fu) v0 (nI k) = some (r, u) ∧ u.1 = w
    unfold fl_X11_keen_10
    obtain ⟨r, u, u1, u2⟩ := x_pass (v0 := v0) (c := c) (lg := k) (by rw [hw]; exact hW) c1 c2 h8 (by omega) w1 w2
    rw [chk_in (show vp_in (1 : Int32) 9 by unfold vp_in; decide), if_neg (show ¬ stM ((1 : Int32)).toNatClampNeg < nI k from nI_nlt (a := 40) (by omega) (by decide)), show f_X7_valueOf v0.1.1 (0 : Int32) = f_X7_valueOf v0.1.1 (nI 0) from rfl, val_nI _ (by decide), bnd1_s, show v0.1.1.1 0 = nI c by rw [hw]; exact hc, u1, bnd2_s]
    by_cases h : r = 0
    · rw [if_pos h, bnd_e, nI_1]
      exact ih fu (k + 1) _ (u2.trans hw) (by omega) (by omega) (by omega)
    · rw [if_neg h]
      exact ⟨_, _, rfl, u2.trans hw⟩
theorem SA.trans {v1 v2 v3 : V12} (h : SA v1 v2) (h' : SA v2 v3) : SA v1 v3 := ⟨fun j hj => (h'.1 j hj).trans (h.1 j hj), h'.2.1.trans h.2.1, h'.2.2.trans h.2.2⟩
theorem m_fitl {B : Nat} {w : V10} (hB : B + 400 < 2 ^ 30) : ∀ (d fu k : Nat) (v : V12), R B w v.2.1 → k + d = 16 → 8 ≤ k → d < fu → ∃ (r : Int32) (v2 : V12), fb_X12_fit_8 fu v (nI k) = some (r, v2) ∧ SA v v2 := by
  intro d
  induction d with
  | zero =>
    intro fu k v hR hk h8 hf
    obtain ⟨fu, rfl⟩ : ∃ m, fu = m + 1 := ⟨fu - 1, by omega⟩
    have hk : k = 16 := by omega
    subst hk
    refine ⟨-1, v, ?_, fun _ _ => rfl, rfl, rfl⟩
    show fl_X12_fit_8 (fb_X12_fit_8 fu) _ _ = _
    unfold fl_X12_fit_8
    rw [if_pos (by decide)]
  | succ d ih =>
    intro fu k v hR hk h8 hf
    obtain ⟨fu, rfl⟩ : ∃ m, fu = m + 1 := ⟨fu - 1, by omega⟩
    show ∃ (r : Int32) (v2 : V12), fl_X12_fit_8 (fb_X12_fit_8 fu) v (nI k) = some (r, v2) ∧ SA v v2
    unfold fl_X12_fit_8
    have hR0 := hR
    obtain ⟨c, lg, W, BL, o, hSV, hS, -⟩ := hR0
    obtain ⟨f0, f1, -⟩ := hSV.cells hS
    obtain ⟨g0, g1, g2, g3, g4, g5, -⟩ := hSV
    obtain ⟨r, v2, a1, a2⟩ := alarms_ok hR hB (c := k) (lg := lg) h8 (by omega) g4 g5
    rw [if_neg (show ¬ (16 : Int32) ≤ nI k from nI_ge (b := 16) (by omega) (by decide)), chk_in (show vp_in (1 : Int32) 4725 by unfold vp_in; decide), show ((1 : Int32)).toNatClampNeg = 1 from rfl, f1, a1, bnd2_s]
    by_cases h : r = 0
    · rw [if_pos h]; exact ⟨_, v2, rfl, a2⟩
    · rw [if_neg h, bnd_e, nI_1]
      obtain ⟨r2, v3, i1, i2⟩ := ih fu (k + 1) v2 (hR.frame (fun j hj => a2.1 j (by omega))) (by omega) (by omega) (by omega)
      exact ⟨r2, v3, i1, a2.trans i2⟩
theorem m_keenl {B : Nat} {w : V10} (hB : B + 400 < 2 ^ 30) : ∀ (d fu k : Nat) (v : V12), R B w v.2.1 → k + d = 41 → 1 ≤ k → d < fu → ∃ (r : Int32) (v2 : V12), fb_X12_keen_7 fu v (nI k) = some (r, v2) ∧ SA v v2 := by
  intro d
  induction d with
  | zero =>
    intro fu k v hR hk h8 hf
    obtain ⟨fu, rfl⟩ : ∃ m, fu = m + 1 := ⟨fu - 1, by omega⟩
    have hk : k = 41 := by omega
    subst hk
    refine ⟨-1, v, ?_, fun _ _ => rfl, rfl, rfl⟩
    show fl_X12_keen_7 (fb_X12_keen_7 fu) _ _ = _
    unfold fl_X12_keen_7
    rw [if_pos (by decide)]
  | succ d ih =>
    intro fu k v hR hk h8 hf
    obtain ⟨fu, rfl⟩ : ∃ m, fu = m + 1 := ⟨fu - 1, by omega⟩
    show ∃ (r : Int32) (v2 : V12), fl_X12_keen_7 (fb_X12_keen_7 fu) v (nI k) = some (r, v2) ∧ SA v v2
    unfold fl_X12_keen_7
    have hR0 := hR
    obtain ⟨c, lg, W, BL, o, hSV, hS, -⟩ := hR0
    obtain ⟨f0, f1, -⟩ := hSV.cells hS
    obtain ⟨g0, g1, g2, g3, g4, g5, -⟩ := hSV
    obtain ⟨r, v2, a1, a2⟩ := alarms_ok hR hB (c := c) (lg := k) g1 g2 h8 (by omega)
    rw [if_neg (show ¬ (40 : Int32) < nI k from nI_nlt (a := 40) (by omega) (by decide)), chk_in (show vp_in (0 : Int32) 4725 by unfold vp_in; decide), show ((0 : Int32)).toNatClampNeg = 0 from rfl, f0, a1, bnd2_s]
    by_cases h : r = 0
    · rw [if_pos h]; exact ⟨_, v2, rfl, a2⟩
    · rw [if_neg h, bnd_e, nI_1]
      obtain ⟨r2, v3, i1, i2⟩ := ih fu (k + 1) v2 (hR.frame (fun j hj => a2.1 j (by omega))) (by omega) (by omega) (by omega)
      exact ⟨r2, v3, i1, a2.trans i2⟩
theorem R.hist {B : Nat} {w : V10} {F : Nat → Int32} (hR : R B w F) : ∃ H : Nat, H ≤ 400 ∧ w.2.2.2.2.2.1.2.2 = nI H ∧ ∀ k, k < H → ∃ b : Int32, f_X4_bitAt w.2.2.2.2.2.1 (nI k) = some b := by
  obtain ⟨-, -, -, -, -, -, -, -, -, -, -, hQ, -⟩ := hR
  obtain ⟨H, h, h1, h2, h3, h4, h5, h6⟩ := hQ
  exact ⟨H, h1, h3, fun k hk => ⟨_, q_at (by omega) h2 h3 h4 h6 hk⟩⟩
theorem q_replayed {B : Nat} {v0 : V11} {v : V12} (hR : R B v0.1 v.2.1) (hB : B + 400 < 2 ^ 30) (p : Int32) : ∃ (r r2 : Int32) (u : V11) (v2 : V12), u.1 = v0.1 ∧ f_X11_replayed v0 p = some (r, u) ∧ f_X12_replayed v p = some (r2, v2) ∧ SA v v2 := by
  have hR0 := hR
  obtain ⟨c, lg, W, BL, o, hSV, hS, -⟩ := hR0
  obtain ⟨f0, f1, f2, -⟩ := hSV.cells hS
  obtain ⟨g0, g1, g2, g3, g4, g5, g6, g7, g8, -⟩ := hSV
  obtain ⟨H, h1, h2, h3⟩ := hR.hist
  unfold f_X11_replayed f_X12_replayed
  rw [chk_in (show vp_in (0 : Int32) 9 by unfold vp_in; decide), chk_in (show vp_in (0 : Int32) 9 by unfold vp_in; decide), chk_in (show vp_in (1 : Int32) 4725 by unfold vp_in; decide)]
  by_cases a1 : p < 8
  · refine ⟨-1, -1, v0, (0, v.2), rfl, if_pos a1, ?_, fun _ _ => rfl, rfl, rfl⟩
    unfold f_X12_in
    rw [if_pos a1, bnd1_s, if_pos rfl]
  · have h0 : ¬ p < 0 := fun q => a1 (by
      rw [Int32.lt_iff_toInt_lt] at q ⊢
      rw [show (0 : Int32).toInt = 0 from rfl] at q
      rw [show (8 : Int32).toInt = 8 from rfl]
      omega)
    obtain ⟨n, hn, e⟩ := nI_of h0
    subst e
    have hn8 : 8 ≤ n := Nat.le_of_not_lt (fun q => a1 (nI_lt (b := 8) q (by decide)))
    have i1 : f_X12_in (nI n) 8 15 = some (if (decide (8 ≤ n) && decide (n ≤ 15)) = true then 1 else 0) := m_in2 (a := 8) (b := 15) (by decide) (by decide) hn
    rw [if_neg (show ¬ nI n < stL ((0 : Int32)).toNatClampNeg from a1), i1, bnd1_s]
    by_cases a2 : n ≤ 15
    · obtain ⟨r2, v2, b1, b2⟩ := alarms_ok (v := (0, v.2)) hR hB (c := n) (lg := lg) hn8 a2 g4 g5
      obtain ⟨T, tr, ht⟩ := x_lims v0.2.2.2.2.2.1 hn8 a2 g4 g5 g7 g8
      obtain ⟨r, u, u1, u2⟩ := x_replay (w := v0.1) h1 h2 h3 (nI W) H FU 0 0 (v0.1, v0.2.1, v0.2.2.1, v0.2.2.2.1, v0.2.2.2.2.1, (T, tr, nI (lmR n lg), nI (lmP n lg W), nI (lmC lg W)), (0, 0, 0, 0, 0, 0), v0.2.2.2.2.2.2.2) rfl (by omega) (by show H < 8589934592; omega)
      refine ⟨r, r2, u, v2, u2, ?_, ?_, b2⟩
      · unfold f_X1_clear
        rw [if_pos (show nI n ≤ stM ((0 : Int32)).toNatClampNeg from nI_le (b := 15) a2 (by decide)), show f_X7_valueOf v0.1.1 (2 : Int32) = f_X7_valueOf v0.1.1 (nI 2) from rfl, show f_X7_valueOf v0.1.1 (1 : Int32) = f_X7_valueOf v0.1.1 (nI 1) from rfl, val_nI _ (by decide), val_nI _ (by decide), bnd1_s, bnd1_s, g3, g6, ht, bnd1_s, bnd1_s]
        exact u1
      · rw [if_pos (in_dec ⟨hn8, a2⟩), if_neg (show ¬ (1 : Int32) = 0 by decide), show ((1 : Int32)).toNatClampNeg = 1 from rfl, f1, b1, bnd2_s]
    · exact ⟨-1, -1, v0, (0, v.2), rfl, if_neg (show ¬ nI n ≤ stM ((0 : Int32)).toNatClampNeg from nI_ge (a := 15) (by omega) hn), if_pos (by rw [if_neg (in_ndec (by omega))]), fun _ _ => rfl, rfl, rfl⟩
theorem x_mpk {B : Nat} {v0 : V11} {F : Nat → Int32} (hR : R B v0.1 F) : ∃ u : V11, f_X11_measurePeaks v0 = some u ∧ u.1 = v0.1 := by
  obtain ⟨H, h1, h2, h3⟩ := hR.hist
  obtain ⟨u, u1, u2⟩ := x_peaks (w := v0.1) h1 h2 h3 H FU 0 (v0.1, v0.2.1, v0.2.2.1, v0.2.2.2.1, v0.2.2.2.2.1, v0.2.2.2.2.2.1, (0, 0, 0, 0, 0, 0), (0, 0, 0, 0, 0, 0)) rfl (by omega) (by show H < 8589934592; omega)
  refine ⟨u, ?_, u2⟩
  unfold f_X11_measurePeaks f_X1_clear
  rw [bnd1_s, bnd1_s]
  exact u1
theorem q_fit {B : Nat} {v0 : V11} {v : V12} (hR : R B v0.1 v.2.1) (hB : B + 400 < 2 ^ 30) : ∃ (r r2 : Int32) (u : V11) (v2 : V12), u.1 = v0.1 ∧ f_X11_fit v0 = some (r, u) ∧ f_X12_fit v = some (r2, v2) ∧ SA v v2 := by
  have hR0 := hR
  obtain ⟨c, lg, W, BL, o, hSV, hS, -⟩ := hR0
  obtain ⟨g0, g1, g2, g3, g4, g5, g6, g7, g8, -⟩ := hSV
  obtain ⟨u1, p1, p2⟩ := x_mpk hR
  obtain ⟨r, u, q1, q2⟩ := x_fitl (w := v0.1) g6 g3 g4 g5 g7 g8 8 FU 8 (u1.1, v0.2.1, v0.2.2.1, v0.2.2.2.1, v0.2.2.2.2.1, v0.2.2.2.2.2.1, u1.2.2.2.2.2.2) p2 (by omega) (by omega) (by decide)
  obtain ⟨r2, v2, m1, m2⟩ := m_fitl (w := v0.1) hB 8 FU 8 (0, v.2) hR (by omega) (by omega) (by decide)
  refine ⟨r, r2, u, v2, q2, ?_, m1, m2⟩
  unfold f_X11_fit
  rw [p1, bnd1_s, chk_in (show vp_in (0 : Int32) 9 by unfold vp_in; decide), bnd_e]
  exact q1
theorem q_keen {B : Nat} {v0 : V11} {v : V12} (hR : R B v0.1 v.2.1) (hB : B + 400 < 2 ^ 30) : ∃ (r r2 : Int32) (u : V11) (v2 : V12), u.1 = v0.1 ∧ f_X11_keen v0 = some (r, u) ∧ f_X12_keen v = some (r2, v2) ∧ SA v v2 := by
  have hR0 := hR
  obtain ⟨c, lg, W, BL, o, hSV, hS, -⟩ := hR0
  obtain ⟨g0, g1, g2, g3, g4, g5, g6, g7, g8, -⟩ := hSV
  obtain ⟨u1, p1, p2⟩ := x_mpk hR
  obtain ⟨r, u, q1, q2⟩ := x_keenl (w := v0.1) g6 g0 g1 g2 g7 g8 40 FU 1 (u1.1, v0.2.1, v0.2.2.1, v0.2.2.2.1, v0.2.2.2.2.1, v0.2.2.2.2.2.1, u1.2.2.2.2.2.2) p2 (by omega) (by omega) (by decide)
  obtain ⟨r2, v2, m1, m2⟩ := m_keenl (w := v0.1) hB 40 FU 1 (0, v.2) hR (by omega) (by omega) (by decide)
  refine ⟨r, r2, u, v2, q2, ?_, m1, m2⟩
  unfold f_X11_keen
  rw [p1, bnd1_s, chk_in (show vp_in (1 : Int32) 9 by unfold vp_in; decide), bnd_e]
  exact q1
end AL
