section mp_73_re
section RE
def hr_ (c : V1) (b W : Int32) : V1 := (f_X1_hear c b W).getD c
theorem hr_s (c : V1) (b W : Int32) : f_X1_hear c b W = some (hr_ c b W) := by
  obtain ⟨c2, h⟩ := x_hearO c b W
  unfold hr_
  rw [h]
  rfl
/-- which tests fail -/
def fl_ (l : Int32 × Int32 × Int32) (c : V1) : Int32 := if c.2.2.2.2.2 < l.2.2 then (if c.2.2.2.2.1 < l.2.1 then (if c.1 < l.1 then 0 else 1) else (if c.1 < l.1 then 2 else 3)) else (if c.2.2.2.2.1 < l.2.1 then (if c.1 < l.1 then 4 else 5) else (if c.1 < l.1 then 6 else 7))
theorem fl_s (L : V2) (c : V1) : f_X2_failures L c = some (fl_ L.2.2 c) := by
  unfold f_X2_failures fc_X2_failures_16 fc_X2_failures_32 fl_
  by_cases h1 : c.1 < L.2.2.1
  · rw [if_pos h1, if_pos h1, if_pos h1, if_pos h1, if_pos h1]
    by_cases h2 : c.2.2.2.2.1 < L.2.2.2.1
    · rw [if_pos h2, if_pos h2, if_pos h2]
      by_cases h3 : c.2.2.2.2.2 < L.2.2.2.2
      · rw [if_pos h3, if_pos h3]
      · rw [if_neg h3, if_neg h3]; rfl
    · rw [if_neg h2, if_neg h2, if_neg h2, bnd_e]
      by_cases h3 : c.2.2.2.2.2 < L.2.2.2.2
      · rw [if_pos h3, if_pos h3]; rfl
      · rw [if_neg h3, if_neg h3]; rfl
  · rw [if_neg h1, if_neg h1, if_neg h1, if_neg h1, if_neg h1]
    by_cases h2 : c.2.2.2.2.1 < L.2.2.2.1
    · rw [if_pos h2, if_pos h2, if_pos h2]
      by_cases h3 : c.2.2.2.2.2 < L.2.2.2.2
      · rw [if_pos h3, if_pos h3]
      · rw [if_neg h3, if_neg h3]; rfl
    · rw [if_neg h2, if_neg h2, if_neg h2, bnd_e]
      by_cases h3 : c.2.2.2.2.2 < L.2.2.2.2
      · rw [if_pos h3, if_pos h3]; rfl
      · rw [if_neg h3, if_neg h3]; rfl
theorem fl_0 (l : Int32 × Int32 × Int32) (c : V1) : fl_ l c = 0 ↔ (c.1 < l.1 ∧ c.2.2.2.2.1 < l.2.1 ∧ c.2.2.2.2.2 < l.2.2) := by
  unfold fl_
  by_cases h1 : c.1 < l.1 <;> by_cases h2 : c.2.2.2.2.1 < l.2.1 <;> by_cases h3 : c.2.2.2.2.2 < l.2.2 <;> simp [h1, h2, h3]
/-- how many alarms, when heard anew -/
def rp_ (l : Int32 × Int32 × Int32) (W : Int32) (g : Nat → Int32) : Nat → Nat → V1 → Int32 → Int32
  | 0, _, _, x => x
  | d + 1, k, c, x => if fl_ l (hr_ c (g k) W) = 0 then rp_ l W g d (k + 1) (hr_ c (g k) W) x else rp_ l W g d (k + 1) (0, 0, 0, 0, 0, 0) (x + 1)
theorem x_replayE {w : V10} {H : Nat} {g : Nat → Int32} (hH : H ≤ 400) (hlen : w.2.2.2.2.2.1.2.2 = nI H) (hat : ∀ k, k < H → f_X4_bitAt w.2.2.2.2.2.1 (nI k) = some (g k)) (x2 : Int32) (l : Int32 × Int32 × Int32) : ∀ (d fu k : Nat) (x3 : Int32) (v0 : V11), v0.1 = w → v0.2.2.2.2.2.1.2.2 = l → k + d = H → d < fu → ∃ u : V11, fb_X11_replayed_64 fu v0 x2 x3 (nI k) = some (rp_ l x2 g d k v0.2.2.2.2.2.2.1 x3, u) ∧ u.1 = w := by
  intro d
  induction d with
  | zero =>
    intro fu k x3 v0 hw hl hk hf
    obtain ⟨fu, rfl⟩ : ∃ m, fu = m + 1 := ⟨fu - 1, by omega⟩
    refine ⟨v0, ?_, hw⟩
    show fl_X11_replayed_64 (fb_X11_replayed_64 fu) _ _ _ _ = _
    unfold fl_X11_replayed_64
    rw [hw, hlen, if_pos (nI_le (by omega) (by omega))]
    rfl
  | succ d ih =>
    intro fu k x3 v0 hw hl hk hf
    obtain ⟨fu, rfl⟩ : ∃ m, fu = m + 1 := ⟨fu - 1, by omega⟩
    show ∃ u : V11, fl_X11_replayed_64 (fb_X11_replayed_64 fu) v0 x2 x3 (nI k) = some (if fl_ l (hr_ v0.2.2.2.2.2.2.1 (g k) x2) = 0 then rp_ l x2 g d (k + 1) (hr_ v0.2.2.2.2.2.2.1 (g k) x2) x3 else rp_ l x2 g d (k + 1) (0, 0, 0, 0, 0, 0) (x3 + 1), u) ∧ u.1 = w
    unfold fl_X11_replayed_64 f_X1_clear
    rw [hw, hlen, if_neg (nI_ge (by omega) (by omega)), hat k (by omega), bnd1_s, hr_s, bnd1_s, fl_s, bnd1_s, hl]
    by_cases h : fl_ l (hr_ v0.2.2.2.2.2.2.1 (g k) x2) = 0
    · rw [if_pos h, if_pos h, bnd_e, nI_1]
      exact ih fu (k + 1) x3 (w, v0.2.1, v0.2.2.1, v0.2.2.2.1, v0.2.2.2.2.1, v0.2.2.2.2.2.1, hr_ v0.2.2.2.2.2.2.1 (g k) x2, v0.2.2.2.2.2.2.2) rfl hl (by omega) (by omega)
    · rw [if_neg h, if_neg h, bnd_e, bnd1_s, bnd_e, nI_1]
      exact ih fu (k + 1) (x3 + 1) (w, v0.2.1, v0.2.2.1, v0.2.2.2.1, v0.2.2.2.2.1, v0.2.2.2.2.2.1, (0, 0, 0, 0, 0, 0), v0.2.2.2.2.2.2.2) rfl hl (by omega) (by omega)
/-- what a hearing does to counts and alarms -/
theorem h58_cls {w w2 : V10} {b r : Int32} (h : fc_X10_hear_58 w b = some (r, w2)) (h0 : w.2.2.2.2.2.2.2.2.1 ≠ 0) (h3 : w.2.2.2.2.2.2.2.2.1 ≠ 3) : w2.2.2.2.1 = hr_ w.2.2.2.1 b (w.1.1 2) ∧ ((fl_ w.2.1.2.2 (hr_ w.2.2.2.1 b (w.1.1 2)) = 0 ∧ w2.2.2.2.2.2.2.2.2.2.2.1 = w.2.2.2.2.2.2.2.2.2.2.1 ∧ w2.2.2.2.2.2.2.2.2.1 ≠ 0 ∧ w2.2.2.2.2.2.2.2.2.1 ≠ 3) ∨ (fl_ w.2.1.2.2 (hr_ w.2.2.2.1 b (w.1.1 2)) ≠ 0 ∧ w2.2.2.2.2.2.2.2.2.2.2.1 = w.2.2.2.2.2.2.2.2.2.2.1 + 1 ∧ w2.2.2.2.2.2.2.2.2.1 = 3)) := by
  unfold fc_X10_hear_58 at h
  obtain ⟨q2, -, h⟩ := bnd1_el h
  obtain ⟨r2, -, h⟩ := bnd1_el h
  obtain ⟨x, hx, h⟩ := bnd1_el h
  rw [show f_X7_valueOf w.1 (2 : Int32) = f_X7_valueOf w.1 (nI 2) from rfl, val_nI _ (by decide)] at hx
  have ex := Option.some.inj hx
  obtain ⟨c2, hc, h⟩ := bnd1_el h
  rw [← ex, hr_s] at hc
  have ec := Option.some.inj hc
  obtain ⟨rr, hf, h⟩ := bnd1_el h
  rw [← ec, fl_s] at hf
  have ef := Option.some.inj hf
  by_cases hr : fl_ w.2.1.2.2 (hr_ w.2.2.2.1 b (w.1.1 2)) = 0
  · rw [← ef, if_pos hr] at h
    by_cases h2 : w.2.2.2.2.2.2.2.2.1 = 2
    · rw [if_pos h2] at h
      obtain ⟨p2, -, h⟩ := bnd1_el h
      have e := (Prod.mk.inj (Option.some.inj h)).2
      rw [← e, ← ec]
      exact ⟨rfl, Or.inl ⟨hr, rfl, h0, h3⟩⟩
    · rw [if_neg h2] at h
      obtain ⟨y, -, h⟩ := bnd1_el h
      by_cases h4 : w.2.2.2.2.2.2.2.2.2.2.2.2.2 < y
      · rw [if_pos h4] at h
        have e := (Prod.mk.inj (Option.some.inj h)).2
        rw [← e, ← ec]
        exact ⟨rfl, Or.inl ⟨hr, rfl, h0, h3⟩⟩
      · rw [if_neg h4] at h
        have e := (Prod.mk.inj (Option.some.inj h)).2
        rw [← e, ← ec]
        exact ⟨rfl, Or.inl ⟨hr, rfl, show (2 : Int32) ≠ 0 by decide, show (2 : Int32) ≠ 3 by decide⟩⟩
  · rw [← ef, if_neg hr] at h
    obtain ⟨w3, h5, h⟩ := bnd1_el h
    have e := (Prod.mk.inj (Option.some.inj h)).2
    unfold f_X10_raiseAlarm at h5
    rw [bnd_e] at h5
    obtain ⟨p2, -, h5⟩ := bnd1_el h5
    have e5 := Option.some.inj h5
    rw [← e, ← e5, ← ec]
    exact ⟨rfl, Or.inr ⟨hr, rfl, rfl⟩⟩
theorem hear_cls {w w2 : V10} {b r : Int32} (h : f_X10_hear w b = some (r, w2)) (h0 : w.2.2.2.2.2.2.2.2.1 ≠ 0) (h3 : w.2.2.2.2.2.2.2.2.1 ≠ 3) : w2.2.2.2.1 = hr_ w.2.2.2.1 b (w.1.1 2) ∧ ((fl_ w.2.1.2.2 (hr_ w.2.2.2.1 b (w.1.1 2)) = 0 ∧ w2.2.2.2.2.2.2.2.2.2.2.1 = w.2.2.2.2.2.2.2.2.2.2.1 ∧ w2.2.2.2.2.2.2.2.2.1 ≠ 0 ∧ w2.2.2.2.2.2.2.2.2.1 ≠ 3) ∨ (fl_ w.2.1.2.2 (hr_ w.2.2.2.1 b (w.1.1 2)) ≠ 0 ∧ w2.2.2.2.2.2.2.2.2.2.2.1 = w.2.2.2.2.2.2.2.2.2.2.1 + 1 ∧ w2.2.2.2.2.2.2.2.2.1 = 3)) := by
  unfold f_X10_hear at h
  rw [if_neg h0, if_neg h3, bnd_e, bnd_e] at h
  by_cases hq : w.2.2.2.2.2.1.2.2 < 400
  · rw [if_pos hq] at h
    have e := h58_cls h h0 h3
    dsimp only at e
    exact e
  · rw [if_neg hq] at h
    obtain ⟨a, q2, -, h⟩ := bnd2_el h
    have e := h58_cls h h0 h3
    dsimp only at e
    exact e
theorem alarms_loopE {v1 : V12} {H : Nat} {g : Nat → Int32} (hH : H ≤ 400) (hbit : ∀ k, k < H → isb (v1.2.1 (4081 + k)) ∧ v1.2.1 (4081 + k) = g k) (W : Int32) (l : Int32 × Int32 × Int32) : ∀ (d fu k B : Nat) (w : V10) (v : V12), k + d = H → d < fu → R B w v.2.1 → LimM v w → w.1.1 2 = W → w.2.1.2.2 = l → w.2.2.2.2.2.2.2.2.1 ≠ 0 → w.2.2.2.2.2.2.2.2.1 ≠ 3 → B + d < 2 ^ 30 → (∀ j, 942 ≤ j → v.2.1 j = v1.2.1 j) → v.2.2.1 = v1.2.2.1 → v.2.2.2.1 = v1.2.2.2.1 → ∃ v3 v4 : V12, fb_X12_alarms_48 fu v (nI H) (nI k) = some (rp_ l W g d k w.2.2.2.1 w.2.2.2.2.2.2.2.2.2.2.1, v4) ∧ f_X12_copies v3 4 0 = some v4 ∧ (∀ j, 942 ≤ j → v3.2.1 j = v1.2.1 j) ∧ v3.2.2.1 = v1.2.2.1 ∧ v3.2.2.2.1 = v1.2.2.2.1 := by
  intro d
  induction d with
  | zero =>
    intro fu k B w v hk hf hR hL hW hl hs0 hs3 hB h1 h2 h3
    obtain ⟨fu, rfl⟩ : ∃ m, fu = m + 1 := ⟨fu - 1, by omega⟩
    obtain ⟨F4, f0, f1, f2⟩ := m_copies (a := 4) (b := 0) (by decide) (by decide) (by decide) v
    refine ⟨v, (v.1, F4, v.2.2), ?_, f0, h1, h2, h3⟩
    obtain ⟨c, lg, W', BL, o, hSV, hS, hLm, hO, hC, hP, hQ, hRr, w25, w26, w27, w28, w29, w30, wst⟩ := hR
    show fl_X12_alarms_48 (fb_X12_alarms_48 fu) _ _ _ = _
    unfold fl_X12_alarms_48 f_X12_back
    rw [if_pos (nI_le (by omega) (by omega)), chk_in (show vp_in (27 : Int32) 4725 by unfold vp_in; decide), show ((27 : Int32)).toNatClampNeg = 27 from rfl, show f_X12_copies v (4 : Int32) (0 : Int32) = _ from f0, bnd1_s, bnd2_s, w27]
    rfl
  | succ d ih =>
    intro fu k B w v hk hf hR hL hW hl hs0 hs3 hB h1 h2 h3
    obtain ⟨fu, rfl⟩ : ∃ m, fu = m + 1 := ⟨fu - 1, by omega⟩
    have hgk : v.2.1 (4081 + k) = g k := (h1 (4081 + k) (by omega)).trans (hbit k (by omega)).2
    have hb : isb (v.2.1 (4081 + k)) := by rw [h1 (4081 + k) (by omega)]; exact (hbit k (by omega)).1
    obtain ⟨r, w2, F2, b1, b2, b3, b4, b5, b6, b7, b8, b9⟩ := hear_rel hR hL hb (by omega)
    obtain ⟨p1, p2⟩ := hear_cls b1 hs0 hs3
    rw [hgk, hW] at p1 p2
    rw [hl] at p2
    show ∃ v3 v4 : V12, fl_X12_alarms_48 (fb_X12_alarms_48 fu) v (nI H) (nI k) = some (if fl_ l (hr_ w.2.2.2.1 (g k) W) = 0 then rp_ l W g d (k + 1) (hr_ w.2.2.2.1 (g k) W) w.2.2.2.2.2.2.2.2.2.2.1 else rp_ l W g d (k + 1) (0, 0, 0, 0, 0, 0) (w.2.2.2.2.2.2.2.2.2.2.1 + 1), v4) ∧ f_X12_copies v3 4 0 = some v4 ∧ (∀ j, 942 ≤ j → v3.2.1 j = v1.2.1 j) ∧ v3.2.2.1 = v1.2.2.1 ∧ v3.2.2.2.1 = v1.2.2.2.1
    unfold fl_X12_alarms_48
    rw [if_neg (nI_ge (by omega) (by omega)), show (4081 : Int32) + nI k = nI (4081 + k) from nI_add 4081 k, chk_nI (by omega) (by decide), nI_clamp (by omega), bnd_e, b2, bnd2_s, chk_in (show vp_in (25 : Int32) 4725 by unfold vp_in; decide), show ((25 : Int32)).toNatClampNeg = 25 from rfl]
    dsimp only
    have hL2 : LimM (v.1, F2, v.2.2) w2 := LimM_of hL b4 b5 rfl
    have h1' : ∀ j, 942 ≤ j → F2 j = v1.2.1 j := fun j hj => (b8 j hj).trans (h1 j hj)
    have h25 := b3.st25.1
    rcases p2 with ⟨q1, q2, q3, q4⟩ | ⟨q1, q2, q3⟩
    · rw [if_pos q1, if_neg (show ¬ F2 25 = 3 by rw [h25]; exact q4), bnd_e, nI_1]
      have := ih fu (k + 1) (B + 1) w2 (v.1, F2, v.2.2) (by omega) (by omega) b3 hL2 (by rw [b4]; exact hW) (by rw [b5]; exact hl) q3 q4 (by omega) h1' h2 h3
      rw [p1, q2] at this
      exact this
    · obtain ⟨w3, F3, s1, s2, s3, s4, s5, s6, s7, s8, s9, s10, s11, s12⟩ := starts_rel (v := (v.1, F2, v.2.2)) b3
      rw [if_neg q1, if_pos (show F2 25 = 3 by rw [h25]; exact q3), s2, bnd1_s, bnd_e, nI_1]
      have := ih fu (k + 1) (B + 1) w3 (v.1, F3, v.2.2) (by omega) (by omega) s3 (LimM_of hL2 s4 s5 rfl) (by rw [s4, b4]; exact hW) (by rw [s5, b5]; exact hl) s9 s10 (by omega) (fun j hj => (s12 j hj).trans (h1' j hj)) h2 h3
      rw [s11, s8, q2] at this
      exact this
theorem alarmsE {B : Nat} {w : V10} {v : V12} (hR : R B w v.2.1) (hB : B + 400 < 2 ^ 30) {c lg W H : Nat} (c1 : 8 ≤ c) (c2 : c ≤ 15) (l1 : 1 ≤ lg) (l2 : lg ≤ 40) (hW : w.1.1 2 = nI W) (hW4 : W ≤ 15) (hH : w.2.2.2.2.2.1.2.2 = nI H) (hH4 : H ≤ 400) : ∃ v2 : V12, f_X12_alarms v (nI c) (nI lg) = some (rp_ (nI (lmR c lg), nI (lmP c lg W), nI (lmC lg W)) (nI W) (fun k => v.2.1 (301 + k)) H 0 (0, 0, 0, 0, 0, 0) 0, v2) ∧ SA v v2 := by
  obtain ⟨F1, p0, p1, p2⟩ := m_copies (a := 0) (b := 4) (by decide) (by decide) (by decide) v
  have hR1 : R B w F1 := hR.frame (fun j hj => p2 j (by omega))
  obtain ⟨W2, w1, w2, w3, hV⟩ := hR1.virt c1 c2 l1 l2
  have eW : W2 = W := (nI_eq (by omega) (by omega)).mp (w3.symm.trans hW)
  subst eW
  obtain ⟨v1, q1, q2, q3, q4, q5, q6⟩ := lays2 (v := (v.1, upd (upd (upd F1 0 (nI c)) 1 (nI lg)) 27 0, v.2.2)) hV
  have hV2 := hV
  rw [show upd (upd (upd F1 0 (nI c)) 1 (nI lg)) 27 0 = v1.2.1 from q4.symm] at hV2
  obtain ⟨w4, F3, s1, s2, s3, s4, s5, s6, s7, s8, s9, s10, s11, s12⟩ := starts_rel hV2
  obtain ⟨-, -, -, -, -, -, -, -, -, -, -, hQ, -⟩ := hR
  obtain ⟨H2, h, h1, h2, h3, h4, h5, h6⟩ := hQ
  have eH : H2 = H := (nI_eq (by omega) (by omega)).mp (h3.symm.trans hH)
  subst eH
  have hc : ∀ j, 942 ≤ j → F3 j = F1 j := fun j hj => by
    rw [s12 j hj, q4]
    show upd (upd (upd F1 0 (nI c)) 1 (nI lg)) 27 0 j = F1 j
    rw [upd_n (by omega), upd_n (by omega), upd_n (by omega)]
  have hbit : ∀ k, k < H2 → isb (F1 (4081 + k)) ∧ F1 (4081 + k) = v.2.1 (301 + k) := fun k hk => by
    have e1 := p1 (301 + k) (by omega)
    rw [show 945 * 4 + (301 + k) = 4081 + k by omega, show 945 * 0 + (301 + k) = 301 + k by omega] at e1
    rw [e1]
    exact ⟨(h6 k hk).2, rfl⟩
  obtain ⟨v3, v4, a1, a2, a3, a4, a5⟩ := alarms_loopE (v1 := (v.1, F1, v.2.2)) (g := fun k => v.2.1 (301 + k)) h1 hbit (nI W2) (nI (lmR c lg), nI (lmP c lg W2), nI (lmC lg W2)) H2 FU 0 B w4 (v1.1, F3, v1.2.2) (by omega) (by show H2 < 8589934592; omega) s3 (LimM_of q2 s4 s5 rfl) (by rw [s4]; show upd (upd w.1.1 0 (nI c)) 1 (nI lg) 2 = nI W2; rw [upd_n (by decide), upd_n (by decide)]; exact hW) (by rw [s5]) s9 s10 (by omega) hc q5 q6
  obtain ⟨F4, f0, f1, f2⟩ := m_copies (a := 4) (b := 0) (by decide) (by decide) (by decide) v3
  have e4 : v4 = (v3.1, F4, v3.2.2) := Option.some.inj (a2.symm.trans f0)
  subst e4
  rw [s11, s8] at a1
  refine ⟨(v3.1, F4, v3.2.2), ?_, m_back (v := v) (v1 := (v.1, F1, v.2.2)) (v2 := v3) p1 p2 a3 f1 f2, a4, a5⟩
  unfold f_X12_alarms
  rw [show f_X12_copies v (0 : Int32) (4 : Int32) = _ from p0, bnd1_s, chk_in (show vp_in (300 : Int32) 4725 by unfold vp_in; decide), bnd_e, chk_in (show vp_in (0 : Int32) 4725 by unfold vp_in; decide), bnd_e, chk_in (show vp_in (1 : Int32) 4725 by unfold vp_in; decide), bnd_e, chk_in (show vp_in (27 : Int32) 4725 by unfold vp_in; decide), bnd_e, show ((300 : Int32)).toNatClampNeg = 300 from rfl, show ((0 : Int32)).toNatClampNeg = 0 from rfl, show ((1 : Int32)).toNatClampNeg = 1 from rfl, show ((27 : Int32)).toNatClampNeg = 27 from rfl]
  dsimp only
  rw [q1, bnd1_s, s2, bnd1_s, p2 300 (by omega), h5]
  exact a1
theorem R.histE {B : Nat} {w : V10} {F : Nat → Int32} (hR : R B w F) : ∃ H : Nat, H ≤ 400 ∧ w.2.2.2.2.2.1.2.2 = nI H ∧ ∀ k, k < H → f_X4_bitAt w.2.2.2.2.2.1 (nI k) = some (F (301 + k)) := by
  obtain ⟨-, -, -, -, -, -, -, -, -, -, -, hQ, -⟩ := hR
  obtain ⟨H, h, h1, h2, h3, h4, h5, h6⟩ := hQ
  exact ⟨H, h1, h3, fun k hk => q_at (by omega) h2 h3 h4 h6 hk⟩
theorem e_replayed {B : Nat} {v0 : V11} {v : V12} (hR : R B v0.1 v.2.1) (hB : B + 400 < 2 ^ 30) (p : Int32) : ∃ (r : Int32) (u : V11) (v2 : V12), u.1 = v0.1 ∧ f_X11_replayed v0 p = some (r, u) ∧ f_X12_replayed v p = some (r, v2) ∧ SA v v2 := by
  have hR0 := hR
  obtain ⟨c, lg, W, BL, o, hSV, hS, -⟩ := hR0
  obtain ⟨f0, f1, f2, -⟩ := hSV.cells hS
  obtain ⟨g0, g1, g2, g3, g4, g5, g6, g7, g8, -⟩ := hSV
  obtain ⟨H, h1, h2, h3⟩ := hR.histE
  unfold f_X11_replayed f_X12_replayed
  rw [chk_in (show vp_in (0 : Int32) 9 by unfold vp_in; decide), chk_in (show vp_in (0 : Int32) 9 by unfold vp_in; decide), chk_in (show vp_in (1 : Int32) 4725 by unfold vp_in; decide)]
  by_cases a1 : p < 8
  · refine ⟨-1, v0, (0, v.2), rfl, if_pos a1, ?_, fun _ _ => rfl, rfl, rfl⟩
    unfold f_X12_in
    rw [if_pos a1, bnd1_s, if_pos rfl]
  · have h0 : ¬ p < 0 := fun q => a1 (by
      rw [Int32.lt_iff_toInt_lt] at q ⊢
      rw [show (0 : Int32).toInt = 0 from rfl] at q
      rw [show (8 : Int32).toInt = 8 from rfl]
      omega)
    obtain ⟨n, hn, e⟩ := nI_of h0
    subst e
    have hn8 : 8 ≤ n := Nat.le_of_not_lt (fun q => a1 (nI_lt (b := 8) q (by decide)))
    have i1 : f_X12_in (nI n) 8 15 = some (if (decide (8 ≤ n) && decide (n ≤ 15)) = true then 1 else 0) := m_in2 (a := 8) (b := 15) (by decide) (by decide) hn
    rw [if_neg (show ¬ nI n < stL ((0 : Int32)).toNatClampNeg from a1), i1, bnd1_s]
    by_cases a2 : n ≤ 15
    · obtain ⟨v2, b1, b2⟩ := alarmsE (v := (0, v.2)) hR hB (c := n) (lg := lg) hn8 a2 g4 g5 g6 g8 h2 h1
      obtain ⟨T, tr, ht⟩ := x_lims v0.2.2.2.2.2.1 hn8 a2 g4 g5 g7 g8
      obtain ⟨u, u1, u2⟩ := x_replayE (w := v0.1) (g := fun k => v.2.1 (301 + k)) h1 h2 h3 (nI W) (nI (lmR n lg), nI (lmP n lg W), nI (lmC lg W)) H FU 0 0 (v0.1, v0.2.1, v0.2.2.1, v0.2.2.2.1, v0.2.2.2.2.1, (T, tr, nI (lmR n lg), nI (lmP n lg W), nI (lmC lg W)), (0, 0, 0, 0, 0, 0), v0.2.2.2.2.2.2.2) rfl rfl (by omega) (by show H < 8589934592; omega)
      refine ⟨rp_ (nI (lmR n lg), nI (lmP n lg W), nI (lmC lg W)) (nI W) (fun k => v.2.1 (301 + k)) H 0 (0, 0, 0, 0, 0, 0) 0, u, v2, u2, ?_, ?_, b2⟩
      · unfold f_X1_clear
        rw [if_pos (show nI n ≤ stM ((0 : Int32)).toNatClampNeg from nI_le (b := 15) a2 (by decide)), show f_X7_valueOf v0.1.1 (2 : Int32) = f_X7_valueOf v0.1.1 (nI 2) from rfl, show f_X7_valueOf v0.1.1 (1 : Int32) = f_X7_valueOf v0.1.1 (nI 1) from rfl, val_nI _ (by decide), val_nI _ (by decide), bnd1_s, bnd1_s, g3, g6, ht, bnd1_s, bnd1_s]
        exact u1
      · rw [if_pos (in_dec ⟨hn8, a2⟩), if_neg (show ¬ (1 : Int32) = 0 by decide), show ((1 : Int32)).toNatClampNeg = 1 from rfl, f1, b1, bnd2_s]
    · exact ⟨-1, v0, (0, v.2), rfl, if_neg (show ¬ nI n ≤ stM ((0 : Int32)).toNatClampNeg from nI_ge (a := 15) (by omega) hn), if_pos (by rw [if_neg (in_ndec (by omega))]), fun _ _ => rfl, rfl, rfl⟩
end RE
end mp_73_re
section mp_74_fk
section FK
/-- no test fails -/
def nf_ (l : Int32 × Int32 × Int32) (W : Int32) (g : Nat → Int32) : Nat → Nat → V1 → Bool
  | 0, _, _ => true
  | d + 1, k, c => decide (fl_ l (hr_ c (g k) W) = 0) && nf_ l W g d (k + 1) (hr_ c (g k) W)
theorem rp_mono (l : Int32 × Int32 × Int32) (W : Int32) (g : Nat → Int32) : ∀ (d k : Nat) (c : V1) (m : Nat), ∃ m2 : Nat, m ≤ m2 ∧ m2 ≤ m + d ∧ rp_ l W g d k c (nI m) = nI m2
  | 0, k, c, m => ⟨m, Nat.le_refl _, Nat.le_refl _, rfl⟩
  | d + 1, k, c, m => by
    show ∃ m2 : Nat, m ≤ m2 ∧ m2 ≤ m + (d + 1) ∧ (if fl_ l (hr_ c (g k) W) = 0 then rp_ l W g d (k + 1) (hr_ c (g k) W) (nI m) else rp_ l W g d (k + 1) (0, 0, 0, 0, 0, 0) (nI m + 1)) = nI m2
    by_cases h : fl_ l (hr_ c (g k) W) = 0
    · obtain ⟨m2, a, b, e⟩ := rp_mono l W g d (k + 1) (hr_ c (g k) W) m
      exact ⟨m2, a, by omega, by rw [if_pos h]; exact e⟩
    · obtain ⟨m2, a, b, e⟩ := rp_mono l W g d (k + 1) (0, 0, 0, 0, 0, 0) (m + 1)
      exact ⟨m2, by omega, by omega, by rw [if_neg h, nI_1]; exact e⟩
theorem rp_nf (l : Int32 × Int32 × Int32) (W : Int32) (g : Nat → Int32) : ∀ (d k : Nat) (c : V1), d < 2 ^ 30 → (rp_ l W g d k c 0 = 0 ↔ nf_ l W g d k c = true)
  | 0, k, c, _ => ⟨fun _ => rfl, fun _ => rfl⟩
  | d + 1, k, c, hd => by
    show (if fl_ l (hr_ c (g k) W) = 0 then rp_ l W g d (k + 1) (hr_ c (g k) W) 0 else rp_ l W g d (k + 1) (0, 0, 0, 0, 0, 0) (0 + 1)) = 0 ↔ (decide (fl_ l (hr_ c (g k) W) = 0) && nf_ l W g d (k + 1) (hr_ c (g k) W)) = true
    by_cases h : fl_ l (hr_ c (g k) W) = 0
    · rw [if_pos h, decide_eq_true h, Bool.true_and]
      exact rp_nf l W g d (k + 1) (hr_ c (g k) W) (by omega)
    · rw [if_neg h, decide_eq_false h, Bool.false_and]
      obtain ⟨m2, a, b, e⟩ := rp_mono l W g d (k + 1) (0, 0, 0, 0, 0, 0) 1
      rw [show (0 : Int32) + 1 = nI 1 from rfl, e]
      exact ⟨fun q => absurd ((nI_eq (b := 0) (by omega) (by decide)).mp q) (by omega), fun q => absurd q (by decide)⟩
theorem rp_congr (l : Int32 × Int32 × Int32) (W : Int32) {g g2 : Nat → Int32} : ∀ (d k : Nat) (c : V1) (x : Int32), (∀ j, k ≤ j → j < k + d → g j = g2 j) → rp_ l W g d k c x = rp_ l W g2 d k c x
  | 0, k, c, x, _ => rfl
  | d + 1, k, c, x, h => by
    show (if fl_ l (hr_ c (g k) W) = 0 then rp_ l W g d (k + 1) (hr_ c (g k) W) x else rp_ l W g d (k + 1) (0, 0, 0, 0, 0, 0) (x + 1)) = (if fl_ l (hr_ c (g2 k) W) = 0 then rp_ l W g2 d (k + 1) (hr_ c (g2 k) W) x else rp_ l W g2 d (k + 1) (0, 0, 0, 0, 0, 0) (x + 1))
    rw [h k (Nat.le_refl _) (by omega), rp_congr l W d (k + 1) (hr_ c (g2 k) W) x (fun j h1 h2 => h j (by omega) (by omega)), rp_congr l W d (k + 1) (0, 0, 0, 0, 0, 0) (x + 1) (fun j h1 h2 => h j (by omega) (by omega))]
def ra_ (p c : V1) : V1 := (jmax p.1 c.1, p.2.1, p.2.2.1, p.2.2.2.1, jmax p.2.2.2.2.1 c.2.2.2.2.1, jmax p.2.2.2.2.2 c.2.2.2.2.2)
def pk_ (W : Int32) (g : Nat → Int32) : Nat → Nat → V1 → V1 → V1
  | 0, _, _, p => p
  | d + 1, k, c, p => pk_ W g d (k + 1) (hr_ c (g k) W) (ra_ p (hr_ c (g k) W))
theorem jmax_lt (a b l : Int32) : jmax a b < l ↔ a < l ∧ b < l := by
  unfold jmax
  by_cases h : a < b
  · rw [if_pos h]
    rw [Int32.lt_iff_toInt_lt] at h
    rw [Int32.lt_iff_toInt_lt, Int32.lt_iff_toInt_lt]
    constructor
    · intro q; exact ⟨by omega, q⟩
    · intro q; exact q.2
  · rw [if_neg h]
    rw [Int32.lt_iff_toInt_lt] at h
    rw [Int32.lt_iff_toInt_lt, Int32.lt_iff_toInt_lt]
    constructor
    · intro q; exact ⟨q, by omega⟩
    · intro q; exact q.1
theorem fl_ra (l : Int32 × Int32 × Int32) (p c : V1) : fl_ l (ra_ p c) = 0 ↔ (fl_ l p = 0 ∧ fl_ l c = 0) := by
  rw [fl_0, fl_0, fl_0]
  show (jmax p.1 c.1 < l.1 ∧ jmax p.2.2.2.2.1 c.2.2.2.2.1 < l.2.1 ∧ jmax p.2.2.2.2.2 c.2.2.2.2.2 < l.2.2) ↔ _
  rw [jmax_lt, jmax_lt, jmax_lt]
  constructor
  · intro h; exact ⟨⟨h.1.1, h.2.1.1, h.2.2.1⟩, h.1.2, h.2.1.2, h.2.2.2⟩
  · intro h; exact ⟨⟨h.1.1, h.2.1⟩, ⟨h.1.2.1, h.2.2.1⟩, h.1.2.2, h.2.2.2⟩
theorem pk_nf (l : Int32 × Int32 × Int32) (W : Int32) (g : Nat → Int32) : ∀ (d k : Nat) (c p : V1), fl_ l (pk_ W g d k c p) = 0 ↔ (fl_ l p = 0 ∧ nf_ l W g d k c = true)
  | 0, k, c, p => ⟨fun h => ⟨h, rfl⟩, fun h => h.1⟩
  | d + 1, k, c, p => by
    show fl_ l (pk_ W g d (k + 1) (hr_ c (g k) W) (ra_ p (hr_ c (g k) W))) = 0 ↔ (fl_ l p = 0 ∧ (decide (fl_ l (hr_ c (g k) W) = 0) && nf_ l W g d (k + 1) (hr_ c (g k) W)) = true)
    rw [pk_nf l W g d (k + 1) (hr_ c (g k) W) (ra_ p (hr_ c (g k) W)), fl_ra, Bool.and_eq_true, decide_eq_true_eq]
    constructor
    · intro h; exact ⟨h.1.1, h.1.2, h.2⟩
    · intro h; exact ⟨⟨h.1, h.2.1⟩, h.2.2⟩
theorem x_peaksE {w : V10} {H : Nat} {g : Nat → Int32} (hH : H ≤ 400) (hlen : w.2.2.2.2.2.1.2.2 = nI H) (hat : ∀ k, k < H → f_X4_bitAt w.2.2.2.2.2.1 (nI k) = some (g k)) : ∀ (d fu k : Nat) (v0 : V11), v0.1 = w → k + d = H → d < fu → ∃ u : V11, fb_X11_measurePeaks_16 fu v0 (nI k) = some u ∧ u.1 = w ∧ u.2.2.2.2.2.2.2 = pk_ (w.1.1 2) g d k v0.2.2.2.2.2.2.1 v0.2.2.2.2.2.2.2 := by
  intro d
  induction d with
  | zero =>
    intro fu k v0 hw hk hf
    obtain ⟨fu, rfl⟩ : ∃ m, fu = m + 1 := ⟨fu - 1, by omega⟩
    refine ⟨v0, ?_, hw, rfl⟩
    show fl_X11_measurePeaks_16 (fb_X11_measurePeaks_16 fu) _ _ = _
    unfold fl_X11_measurePeaks_16
    rw [hw, hlen, if_pos (nI_le (by omega) (by omega))]
  | succ d ih =>
    intro fu k v0 hw hk hf
    obtain ⟨fu, rfl⟩ : ∃ m, fu = m + 1 := ⟨fu - 1, by omega⟩
    show ∃ u : V11, fl_X11_measurePeaks_16 (fb_X11_measurePeaks_16 fu) v0 (nI k) = some u ∧ u.1 = w ∧ u.2.2.2.2.2.2.2 = pk_ (w.1.1 2) g d (k + 1) (hr_ v0.2.2.2.2.2.2.1 (g k) (w.1.1 2)) (ra_ v0.2.2.2.2.2.2.2 (hr_ v0.2.2.2.2.2.2.1 (g k) (w.1.1 2)))
    unfold fl_X11_measurePeaks_16 f_X1_raiseTo
    rw [hw, hlen, if_neg (nI_ge (by omega) (by omega)), hat k (by omega), bnd1_s, show f_X7_valueOf w.1 (2 : Int32) = f_X7_valueOf w.1 (nI 2) from rfl, val_nI _ (by decide), bnd1_s, hr_s, bnd1_s, bnd_e, bnd_e, bnd_e, bnd1_s, bnd_e, nI_1]
    exact ih fu (k + 1) (w, v0.2.1, v0.2.2.1, v0.2.2.2.1, v0.2.2.2.2.1, v0.2.2.2.2.2.1, hr_ v0.2.2.2.2.2.2.1 (g k) (w.1.1 2), ra_ v0.2.2.2.2.2.2.2 (hr_ v0.2.2.2.2.2.2.1 (g k) (w.1.1 2))) rfl (by omega) (by omega)
theorem x_passE {v0 : V11} {c lg W : Nat} (hW : v0.1.1.1 2 = nI W) (c1 : 8 ≤ c) (c2 : c ≤ 15) (l1 : 1 ≤ lg) (l2 : lg ≤ 40) (w1 : 4 ≤ W) (w2 : W ≤ 15) : ∃ u : V11, f_X11_peaksPass v0 (nI c) (nI lg) = some ((if fl_ (nI (lmR c lg), nI (lmP c lg W), nI (lmC lg W)) v0.2.2.2.2.2.2.2 = 0 then 1 else 0), u) ∧ u.1 = v0.1 ∧ u.2.2.2.2.2.2.2 = v0.2.2.2.2.2.2.2 := by
  unfold f_X11_peaksPass
  obtain ⟨T, tr, ht⟩ := x_lims v0.2.2.2.2.2.1 c1 c2 l1 l2 w1 w2
  rw [show f_X7_valueOf v0.1.1 (2 : Int32) = f_X7_valueOf v0.1.1 (nI 2) from rfl, val_nI _ (by decide), bnd1_s, hW, ht, bnd1_s, fl_s, bnd1_s]
  refine ⟨(v0.1, v0.2.1, v0.2.2.1, v0.2.2.2.1, v0.2.2.2.2.1, (T, tr, nI (lmR c lg), nI (lmP c lg W), nI (lmC lg W)), v0.2.2.2.2.2.2), ?_, rfl, rfl⟩
  by_cases h : fl_ (nI (lmR c lg), nI (lmP c lg W), nI (lmC lg W)) v0.2.2.2.2.2.2.2 = 0
  · rw [if_pos h, if_pos h]
  · rw [if_neg h, if_neg h]
/-- limits are never 0 -/
theorem lim_pos {c lg W : Nat} (w1 : 4 ≤ W) (w2 : W ≤ 15) : fl_ (nI (lmR c lg), nI (lmP c lg W), nI (lmC lg W)) (0, 0, 0, 0, 0, 0) = 0 := by
  rw [fl_0]
  have a := fst_no (fun k => decide (lg ≤ 4 * (k - 1)) && decide (c ^ (k - 1) ≤ 2 ^ (4 * (k - 1) - lg))) (n := 16) (a := 2) (d := 14) rfl
  have b := fst_no (fun k => rareb (TS c (W - 1) (k - 1)) (4 * (W - 1)) lg) (n := W + 1) (a := 2) (d := W - 1) (by omega)
  have e := fst_no (fun k => rareb (TS 8 (W - 1) k) (4 * (W - 1)) lg) (n := W) (a := 1) (d := W - 1) (by omega)
  have a' : 2 ≤ lmR c lg ∧ lmR c lg ≤ 16 := ⟨a.1, a.2.1⟩
  have b' : 2 ≤ lmP c lg W ∧ lmP c lg W ≤ W + 1 := ⟨b.1, b.2.1⟩
  have e' : 1 ≤ lmC lg W ∧ lmC lg W ≤ W := ⟨e.1, e.2.1⟩
  exact ⟨nI_lt (a := 0) (by omega) (by omega), nI_lt (a := 0) (by omega) (by omega), nI_lt (a := 0) (by omega) (by omega)⟩
theorem fit_key {c lg W H : Nat} (g : Nat → Int32) (hH : H ≤ 400) (w1 : 4 ≤ W) (w2 : W ≤ 15) : rp_ (nI (lmR c lg), nI (lmP c lg W), nI (lmC lg W)) (nI W) g H 0 (0, 0, 0, 0, 0, 0) 0 = 0 ↔ fl_ (nI (lmR c lg), nI (lmP c lg W), nI (lmC lg W)) (pk_ (nI W) g H 0 (0, 0, 0, 0, 0, 0) (0, 0, 0, 0, 0, 0)) = 0 := by
  rw [rp_nf _ _ _ _ _ _ (by omega), pk_nf]
  exact ⟨fun h => ⟨lim_pos w1 w2, h⟩, fun h => h.2⟩
theorem fit_loop {B : Nat} {w : V10} (hB : B + 400 < 2 ^ 30) {W lg H : Nat} {g : Nat → Int32} (hW : w.1.1 2 = nI W) (hl : w.1.1 1 = nI lg) (l1 : 1 ≤ lg) (l2 : lg ≤ 40) (w1 : 4 ≤ W) (w2 : W ≤ 15) (hH : w.2.2.2.2.2.1.2.2 = nI H) (hH4 : H ≤ 400) : ∀ (d f1 f2 k : Nat) (v0 : V11) (v : V12), v0.1 = w → v0.2.2.2.2.2.2.2 = pk_ (nI W) g H 0 (0, 0, 0, 0, 0, 0) (0, 0, 0, 0, 0, 0) → R B w v.2.1 → (∀ j, j < H → v.2.1 (301 + j) = g j) → k + d = 16 → 8 ≤ k → d < f1 → d < f2 → ∃ (r : Int32) (u : V11) (v2 : V12), fb_X11_fit_10 f1 v0 (nI k) = some (r, u) ∧ u.1 = w ∧ fb_X12_fit_8 f2 v (nI k) = some (r, v2) ∧ SA v v2 := by
  intro d
  induction d with
  | zero =>
    intro f1 f2 k v0 v hw hp hR hg hk h8 hf1 hf2
    obtain ⟨f1, rfl⟩ : ∃ m, f1 = m + 1 := ⟨f1 - 1, by omega⟩
    obtain ⟨f2, rfl⟩ : ∃ m, f2 = m + 1 := ⟨f2 - 1, by omega⟩
    have hk : k = 16 := by omega
    subst hk
    refine ⟨-1, v0, v, ?_, hw, ?_, fun _ _ => rfl, rfl, rfl⟩
    · show fl_X11_fit_10 (fb_X11_fit_10 f1) _ _ = _
      unfold fl_X11_fit_10
      rw [chk_in (show vp_in (0 : Int32) 9 by unfold vp_in; decide), if_pos (by decide)]
    · show fl_X12_fit_8 (fb_X12_fit_8 f2) _ _ = _
      unfold fl_X12_fit_8
      rw [if_pos (by decide)]
  | succ d ih =>
    intro f1 f2 k v0 v hw hp hR hg hk h8 hf1 hf2
    obtain ⟨f1, rfl⟩ : ∃ m, f1 = m + 1 := ⟨f1 - 1, by omega⟩
    obtain ⟨f2, rfl⟩ : ∃ m, f2 = m + 1 := ⟨f2 - 1, by omega⟩
    show ∃ (r : Int32) (u : V11) (v2 : V12), fl_X11_fit_10 (fb_X11_fit_10 f1) v0 (nI k) = some (r, u) ∧ u.1 = w ∧ fl_X12_fit_8 (fb_X12_fit_8 f2) v (nI k) = some (r, v2) ∧ SA v v2
    unfold fl_X11_fit_10 fl_X12_fit_8
    have hR0 := hR
    obtain ⟨-, -, -, -, -, -, hS, -⟩ := hR0
    have f1' : v.2.1 1 = nI lg := (hS.1 1 (by decide)).trans hl
    obtain ⟨u, u1, u2, u3⟩ := x_passE (v0 := v0) (c := k) (lg := lg) (by rw [hw]; exact hW) h8 (by omega) l1 l2 w1 w2
    obtain ⟨v2, a1, a2⟩ := alarmsE hR hB (c := k) (lg := lg) h8 (by omega) l1 l2 hW w2 hH hH4
    rw [rp_congr _ _ H 0 _ _ (fun j _ hj => hg j (by omega))] at a1
    rw [hp] at u1
    have key := fit_key (c := k) (lg := lg) (W := W) g hH4 w1 w2
    rw [chk_in (show vp_in (0 : Int32) 9 by unfold vp_in; decide), if_neg (show ¬ stM ((0 : Int32)).toNatClampNeg < nI k from nI_nlt (a := 15) (by omega) (by decide)), show f_X7_valueOf v0.1.1 (1 : Int32) = f_X7_valueOf v0.1.1 (nI 1) from rfl, val_nI _ (by decide), bnd1_s, show v0.1.1.1 1 = nI lg by rw [hw]; exact hl, u1, bnd2_s, if_neg (show ¬ (16 : Int32) ≤ nI k from nI_ge (b := 16) (by omega) (by decide)), chk_in (show vp_in (1 : Int32) 4725 by unfold vp_in; decide), show ((1 : Int32)).toNatClampNeg = 1 from rfl, f1', a1, bnd2_s]
    by_cases h : fl_ (nI (lmR k lg), nI (lmP k lg W), nI (lmC lg W)) (pk_ (nI W) g H 0 (0, 0, 0, 0, 0, 0) (0, 0, 0, 0, 0, 0)) = 0
    · rw [if_neg (show ¬ (if fl_ (nI (lmR k lg), nI (lmP k lg W), nI (lmC lg W)) (pk_ (nI W) g H 0 (0, 0, 0, 0, 0, 0) (0, 0, 0, 0, 0, 0)) = 0 then (1 : Int32) else 0) = 0 by rw [if_pos h]; decide), if_pos (key.mpr h)]
      exact ⟨nI k, (u.1, v0.2.1, v0.2.2.1, v0.2.2.2.1, v0.2.2.2.2.1, u.2.2.2.2.2.1, v0.2.2.2.2.2.2.1, u.2.2.2.2.2.2.2), v2, rfl, u2.trans hw, rfl, a2⟩
    · rw [if_pos (show (if fl_ (nI (lmR k lg), nI (lmP k lg W), nI (lmC lg W)) (pk_ (nI W) g H 0 (0, 0, 0, 0, 0, 0) (0, 0, 0, 0, 0, 0)) = 0 then (1 : Int32) else 0) = 0 by rw [if_neg h]), if_neg (fun q => h (key.mp q)), bnd_e, bnd_e, nI_1]
      obtain ⟨r, u', v3, i1, i2, i3, i4⟩ := ih f1 f2 (k + 1) (u.1, v0.2.1, v0.2.2.1, v0.2.2.2.1, v0.2.2.2.2.1, u.2.2.2.2.2.1, v0.2.2.2.2.2.2.1, u.2.2.2.2.2.2.2) v2 (u2.trans hw) (u3.trans hp) (hR.frame (fun j hj => a2.1 j (by omega))) (fun j hj => (a2.1 (301 + j) (by omega)).trans (hg j hj)) (by omega) (by omega) (by omega) (by omega)
      exact ⟨r, u', v3, i1, i2, i3, a2.trans i4⟩
theorem keen_loop {B : Nat} {w : V10} (hB : B + 400 < 2 ^ 30) {W c H : Nat} {g : Nat → Int32} (hW : w.1.1 2 = nI W) (hc : w.1.1 0 = nI c) (c1 : 8 ≤ c) (c2 : c ≤ 15) (w1 : 4 ≤ W) (w2 : W ≤ 15) (hH : w.2.2.2.2.2.1.2.2 = nI H) (hH4 : H ≤ 400) : ∀ (d f1 f2 k : Nat) (v0 : V11) (v : V12), v0.1 = w → v0.2.2.2.2.2.2.2 = pk_ (nI W) g H 0 (0, 0, 0, 0, 0, 0) (0, 0, 0, 0, 0, 0) → R B w v.2.1 → (∀ j, j < H → v.2.1 (301 + j) = g j) → k + d = 41 → 1 ≤ k → d < f1 → d < f2 → ∃ (r : Int32) (u : V11) (v2 : V12), fb_X11_keen_10 f1 v0 (nI k) = some (r, u) ∧ u.1 = w ∧ fb_X12_keen_7 f2 v (nI k) = some (r, v2) ∧ SA v v2 := by
  intro d
  induction d with
  | zero =>
    intro f1 f2 k v0 v hw hp hR hg hk h8 hf1 hf2
    obtain ⟨f1, rfl⟩ : ∃ m, f1 = m + 1 := ⟨f1 - 1, by omega⟩
    obtain ⟨f2, rfl⟩ : ∃ m, f2 = m + 1 := ⟨f2 - 1, by omega⟩
    have hk : k = 41 := by omega
    subst hk
    refine ⟨-1, v0, v, ?_, hw, ?_, fun _ _ => rfl, rfl, rfl⟩
    · show fl_X11_keen_10 (fb_X11_keen_10 f1) _ _ = _
      unfold fl_X11_keen_10
      rw [chk_in (show vp_in (1 : Int32) 9 by unfold vp_in; decide), if_pos (by decide)]
    · show fl_X12_keen_7 (fb_X12_keen_7 f2) _ _ = _
      unfold fl_X12_keen_7
      rw [if_pos (by decide)]
  | succ d ih =>
    intro f1 f2 k v0 v hw hp hR hg hk h8 hf1 hf2
    obtain ⟨f1, rfl⟩ : ∃ m, f1 = m + 1 := ⟨f1 - 1, by omega⟩
    obtain ⟨f2, rfl⟩ : ∃ m, f2 = m + 1 := ⟨f2 - 1, by omega⟩
    show ∃ (r : Int32) (u : V11) (v2 : V12), fl_X11_keen_10 (fb_X11_keen_10 f1) v0 (nI k) = some (r, u) ∧ u.1 = w ∧ fl_X12_keen_7 (fb_X12_keen_7 f2) v (nI k) = some (r, v2) ∧ SA v v2
    unfold fl_X11_keen_10 fl_X12_keen_7
    have hR0 := hR
    obtain ⟨-, -, -, -, -, -, hS, -⟩ := hR0
    have f0' : v.2.1 0 = nI c := (hS.1 0 (by decide)).trans hc
    obtain ⟨u, u1, u2, u3⟩ := x_passE (v0 := v0) (c := c) (lg := k) (by rw [hw]; exact hW) c1 c2 h8 (by omega) w1 w2
    obtain ⟨v2, a1, a2⟩ := alarmsE hR hB (c := c) (lg := k) c1 c2 h8 (by omega) hW w2 hH hH4
    rw [rp_congr _ _ H 0 _ _ (fun j _ hj => hg j (by omega))] at a1
    rw [hp] at u1
    have key := fit_key (c := c) (lg := k) (W := W) g hH4 w1 w2
    rw [chk_in (show vp_in (1 : Int32) 9 by unfold vp_in; decide), if_neg (show ¬ stM ((1 : Int32)).toNatClampNeg < nI k from nI_nlt (a := 40) (by omega) (by decide)), show f_X7_valueOf v0.1.1 (0 : Int32) = f_X7_valueOf v0.1.1 (nI 0) from rfl, val_nI _ (by decide), bnd1_s, show v0.1.1.1 0 = nI c by rw [hw]; exact hc, u1, bnd2_s, if_neg (show ¬ (40 : Int32) < nI k from nI_nlt (a := 40) (by omega) (by decide)), chk_in (show vp_in (0 : Int32) 4725 by unfold vp_in; decide), show ((0 : Int32)).toNatClampNeg = 0 from rfl, f0', a1, bnd2_s]
    by_cases h : fl_ (nI (lmR c k), nI (lmP c k W), nI (lmC k W)) (pk_ (nI W) g H 0 (0, 0, 0, 0, 0, 0) (0, 0, 0, 0, 0, 0)) = 0
    · rw [if_neg (show ¬ (if fl_ (nI (lmR c k), nI (lmP c k W), nI (lmC k W)) (pk_ (nI W) g H 0 (0, 0, 0, 0, 0, 0) (0, 0, 0, 0, 0, 0)) = 0 then (1 : Int32) else 0) = 0 by rw [if_pos h]; decide), if_pos (key.mpr h)]
      exact ⟨nI k, (u.1, v0.2.1, v0.2.2.1, v0.2.2.2.1, v0.2.2.2.2.1, u.2.2.2.2.2.1, v0.2.2.2.2.2.2.1, u.2.2.2.2.2.2.2), v2, rfl, u2.trans hw, rfl, a2⟩
    · rw [if_pos (show (if fl_ (nI (lmR c k), nI (lmP c k W), nI (lmC k W)) (pk_ (nI W) g H 0 (0, 0, 0, 0, 0, 0) (0, 0, 0, 0, 0, 0)) = 0 then (1 : Int32) else 0) = 0 by rw [if_neg h]), if_neg (fun q => h (key.mp q)), bnd_e, bnd_e, nI_1]
      obtain ⟨r, u', v3, i1, i2, i3, i4⟩ := ih f1 f2 (k + 1) (u.1, v0.2.1, v0.2.2.1, v0.2.2.2.1, v0.2.2.2.2.1, u.2.2.2.2.2.1, v0.2.2.2.2.2.2.1, u.2.2.2.2.2.2.2) v2 (u2.trans hw) (u3.trans hp) (hR.frame (fun j hj => a2.1 j (by omega))) (fun j hj => (a2.1 (301 + j) (by omega)).trans (hg j hj)) (by omega) (by omega) (by omega) (by omega)
      exact ⟨r, u', v3, i1, i2, i3, a2.trans i4⟩
theorem x_mpkE {B : Nat} {v0 : V11} {F : Nat → Int32} (hR : R B v0.1 F) : ∃ (H : Nat) (u : V11), H ≤ 400 ∧ v0.1.2.2.2.2.2.1.2.2 = nI H ∧ f_X11_measurePeaks v0 = some u ∧ u.1 = v0.1 ∧ u.2.2.2.2.2.2.2 = pk_ (v0.1.1.1 2) (fun k => F (301 + k)) H 0 (0, 0, 0, 0, 0, 0) (0, 0, 0, 0, 0, 0) := by
  obtain ⟨H, h1, h2, h3⟩ := hR.histE
  obtain ⟨u, u1, u2, u3⟩ := x_peaksE (w := v0.1) (g := fun k => F (301 + k)) h1 h2 h3 H FU 0 (v0.1, v0.2.1, v0.2.2.1, v0.2.2.2.1, v0.2.2.2.2.1, v0.2.2.2.2.2.1, (0, 0, 0, 0, 0, 0), (0, 0, 0, 0, 0, 0)) rfl (by omega) (by show H < 8589934592; omega)
  refine ⟨H, u, h1, h2, ?_, u2, u3⟩
  unfold f_X11_measurePeaks f_X1_clear
  rw [bnd1_s, bnd1_s]
  exact u1
theorem e_fit {B : Nat} {v0 : V11} {v : V12} (hR : R B v0.1 v.2.1) (hB : B + 400 < 2 ^ 30) : ∃ (r : Int32) (u : V11) (v2 : V12), u.1 = v0.1 ∧ f_X11_fit v0 = some (r, u) ∧ f_X12_fit v = some (r, v2) ∧ SA v v2 := by
  have hR0 := hR
  obtain ⟨c, lg, W, BL, o, hSV, hS, -⟩ := hR0
  obtain ⟨g0, g1, g2, g3, g4, g5, g6, g7, g8, -⟩ := hSV
  obtain ⟨H, u1, h1, h2, p1, p2, p3⟩ := x_mpkE hR
  rw [g6] at p3
  obtain ⟨r, u, v2, q1, q2, q3, q4⟩ := fit_loop (w := v0.1) (g := fun k => v.2.1 (301 + k)) hB g6 g3 g4 g5 g7 g8 h2 h1 8 FU FU 8 (u1.1, v0.2.1, v0.2.2.1, v0.2.2.2.1, v0.2.2.2.2.1, v0.2.2.2.2.2.1, u1.2.2.2.2.2.2) (0, v.2) p2 p3 hR (fun _ _ => rfl) (by omega) (by omega) (by decide) (by decide)
  refine ⟨r, u, v2, q2, ?_, q3, q4⟩
  unfold f_X11_fit
  rw [p1, bnd1_s, chk_in (show vp_in (0 : Int32) 9 by unfold vp_in; decide), bnd_e]
  exact q1
theorem e_keen {B : Nat} {v0 : V11} {v : V12} (hR : R B v0.1 v.2.1) (hB : B + 400 < 2 ^ 30) : ∃ (r : Int32) (u : V11) (v2 : V12), u.1 = v0.1 ∧ f_X11_keen v0 = some (r, u) ∧ f_X12_keen v = some (r, v2) ∧ SA v v2 := by
  have hR0 := hR
  obtain ⟨c, lg, W, BL, o, hSV, hS, -⟩ := hR0
  obtain ⟨g0, g1, g2, g3, g4, g5, g6, g7, g8, -⟩ := hSV
  obtain ⟨H, u1, h1, h2, p1, p2, p3⟩ := x_mpkE hR
  rw [g6] at p3
  obtain ⟨r, u, v2, q1, q2, q3, q4⟩ := keen_loop (w := v0.1) (g := fun k => v.2.1 (301 + k)) hB g6 g0 g1 g2 g7 g8 h2 h1 40 FU FU 1 (u1.1, v0.2.1, v0.2.2.1, v0.2.2.2.1, v0.2.2.2.2.1, v0.2.2.2.2.2.1, u1.2.2.2.2.2.2) (0, v.2) p2 p3 hR (fun _ _ => rfl) (by omega) (by omega) (by decide) (by decide)
  refine ⟨r, u, v2, q2, ?_, q3, q4⟩
  unfold f_X11_keen
  rw [p1, bnd1_s, chk_in (show vp_in (1 : Int32) 9 by unfold vp_in; decide), bnd_e]
  exact q1
end FK
end mp_74_fk
