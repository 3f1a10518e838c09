section ST
theorem m_103 (v : V12) {n : Nat} (hn : v.2.1 701 = nI n) (h15 : n < 15) : fc_X12_starts_103 v = some (v.1, upd (upd v.2.1 (702 + 16 * n) 0) 701 (nI (n + 1)), v.2.2) := by
  unfold fc_X12_starts_103
  rw [show ((701 : Int32)).toNatClampNeg = 701 from rfl, hn, show (702 : Int32) + (16 : Int32) * nI n = nI (702 + 16 * n) from by show nI 702 + nI 16 * nI n = _; rw [pk_mul, nI_add], chk_in (by unfold vp_in; decide), chk_nI (by omega) (by decide), bnd_e, chk_in (by unfold vp_in; decide), chk_in (by unfold vp_in; decide), bnd_e, nI_clamp (by omega), upd_n (by omega), hn, nI_1]
theorem m_shift16 : ∀ (d fu k : Nat) (v : V12), k + d = 224 → d < fu → fb_X12_starts_55 fu v (nI k) = fc_X12_starts_103 (v.1, upd (fun j => if 702 + k ≤ j ∧ j < 926 then v.2.1 (j + 16) else v.2.1 j) 701 (v.2.1 701 - 1), v.2.2) := by
  intro d
  induction d with
  | zero =>
    intro fu k v hk hf
    obtain ⟨fu, rfl⟩ : ∃ m, fu = m + 1 := ⟨fu - 1, by omega⟩
    have hk : k = 224 := by omega
    subst hk
    have e : (fun j => if 702 + 224 ≤ j ∧ j < 926 then v.2.1 (j + 16) else v.2.1 j) = v.2.1 := by
      funext j
      rw [if_neg (by omega)]
    unfold fb_X12_starts_55 fl_X12_starts_55
    rw [if_pos (show (224 : Int32) ≤ nI 224 by decide), e, chk_in (by unfold vp_in; decide), chk_in (by unfold vp_in; decide), bnd_e]
    rfl
  | succ d ih =>
    intro fu k v hk hf
    obtain ⟨fu, rfl⟩ : ∃ m, fu = m + 1 := ⟨fu - 1, by omega⟩
    unfold fb_X12_starts_55 fl_X12_starts_55
    rw [if_neg (show ¬ (224 : Int32) ≤ nI k from nI_ge (b := 224) (by omega) (by decide)), show (702 : Int32) + nI k = nI (702 + k) from nI_add 702 k, show nI (702 + k) + 16 = nI (702 + k + 16) from nI_add _ 16]
    rw [chk_nI (by omega) (by decide), chk_nI (by omega) (by decide), nI_clamp (by omega), nI_clamp (by omega), bnd_e, bnd_e, nI_1, ih fu (k + 1) _ (by omega) (by omega)]
    congr 3
    funext j
    dsimp only
    by_cases hj : j = 701
    · subst hj
      rw [upd_s, upd_s, upd_n (by omega)]
    · rw [upd_n hj, upd_n hj]
      by_cases h2 : j = 702 + k
      · subst h2
        rw [if_neg (by omega), if_pos (by omega), upd_s]
      · by_cases h3 : 702 + (k + 1) ≤ j ∧ j < 926
        · rw [if_pos h3, if_pos (by omega), upd_n (by omega)]
        · rw [if_neg h3, if_neg (by omega), upd_n h2]
theorem x_45 (sm ln : Nat → Int32) {n : Nat} (hn : n < 15) : fc_X6_open_45 (sm, ln, nI n) = some (upd sm n 0, upd ln n 0, nI (n + 1)) := by
  unfold fc_X6_open_45
  dsimp only
  rw [if_neg (nI_pos (by omega)), chk_nI hn (by decide), bnd_e, chk_nI hn (by decide), bnd_e, bnd_e, nI_clamp (by omega), nI_1]
theorem open_rel {r : V6} {v : V12} (hR : RR r v.2.1) : ∃ (r2 : V6) (F2 : Nat → Int32), f_X6_open r = some r2 ∧ (if v.2.1 701 = 15 then fb_X12_starts_55 FU v 0 else fc_X12_starts_103 v) = some (v.1, F2, v.2.2) ∧ RR r2 F2 ∧ F2 701 ≠ 0 ∧ ∀ j, j < 701 ∨ 942 ≤ j → F2 j = v.2.1 j := by
  obtain ⟨n, h1, h2, h3, h4⟩ := hR
  obtain ⟨sm, ln, rn⟩ := r
  dsimp only at h2 h4
  subst h2
  by_cases hn : n = 15
  · subst hn
    refine ⟨(upd (va_cpy sm sm 1 0 14) 14 0, upd (va_cpy ln ln 1 0 14) 14 0, nI (14 + 1)), upd (upd (upd (fun j => if 702 + 0 ≤ j ∧ j < 926 then v.2.1 (j + 16) else v.2.1 j) 701 (v.2.1 701 - 1)) (702 + 16 * 14) 0) 701 (nI (14 + 1)), ?_, ?_, ?_, ?_, ?_⟩
    · unfold f_X6_open
      dsimp only
      rw [if_neg (by decide)]
      unfold chkcp
      rw [if_neg (by decide), bnd_e, if_neg (by decide), bnd_e]
      exact x_45 _ _ (n := 14) (by decide)
    · rw [if_pos (by rw [h3]; rfl)]
      refine (m_shift16 224 FU 0 v (by decide) (by decide)).trans ?_
      refine m_103 (n := 14) _ ?_ (by decide)
      show v.2.1 701 - 1 = nI 14
      rw [h3]; rfl
    · refine ⟨15, by omega, rfl, upd_s _ _ _, fun i hi => ?_⟩
      by_cases hi2 : i = 14
      · subst hi2
        refine ⟨0, 0, by omega, by decide, upd_s (va_cpy ln ln 1 0 14) 14 0, ?_, upd_s (va_cpy sm sm 1 0 14) 14 0, fun k hk => absurd hk (by omega)⟩
        rw [upd_n (by omega), upd_s]; rfl
      · obtain ⟨len, S, z1, z2, z3, z4, z5, z6⟩ := h4 (i + 1) (by omega)
        refine ⟨len, S, z1, z2, ?_, ?_, ?_, fun k hk => ?_⟩
        · show upd (va_cpy ln ln 1 0 14) 14 0 i = _
          rw [upd_n hi2, pk_cpy_in (by omega) (by omega), show 1 + (i - 0) = i + 1 by omega]; exact z3
        · rw [upd_n (by omega), upd_n (by omega), upd_n (by omega), if_pos (by omega), show 702 + 16 * i + 16 = 702 + 16 * (i + 1) by omega]; exact z4
        · show upd (va_cpy sm sm 1 0 14) 14 0 i = _
          rw [upd_n hi2, pk_cpy_in (by omega) (by omega), show 1 + (i - 0) = i + 1 by omega]; exact z5
        · rw [upd_n (by omega), upd_n (by omega), upd_n (by omega), if_pos (by omega), show 703 + 16 * i + k + 16 = 703 + 16 * (i + 1) + k by omega]; exact z6 k hk
    · rw [upd_s]; decide
    · intro j hj
      rw [upd_n (by omega), upd_n (by omega), upd_n (by omega), if_neg (by omega)]
  · have hlt : n < 15 := by omega
    refine ⟨(upd sm n 0, upd ln n 0, nI (n + 1)), upd (upd v.2.1 (702 + 16 * n) 0) 701 (nI (n + 1)), ?_, ?_, ?_, ?_, ?_⟩
    · unfold f_X6_open
      dsimp only
      rw [if_pos (show nI n < (15 : Int32) from nI_lt (b := 15) hlt (by decide))]
      exact x_45 sm ln hlt
    · rw [if_neg (by rw [h3]; show ¬ nI n = nI 15; rw [nI_eq (by omega) (by decide)]; exact hn)]
      exact m_103 v h3 hlt
    · refine ⟨n + 1, by omega, rfl, upd_s _ _ _, fun i hi => ?_⟩
      by_cases hi2 : i = n
      · subst hi2
        refine ⟨0, 0, by omega, by decide, upd_s _ _ _, ?_, upd_s _ _ _, fun k hk => absurd hk (by omega)⟩
        rw [upd_n (by omega), upd_s]; rfl
      · obtain ⟨len, S, z1, z2, z3, z4, z5, z6⟩ := h4 i (by omega)
        refine ⟨len, S, z1, z2, ?_, ?_, ?_, fun k hk => ?_⟩
        · show upd ln n 0 i = _
          rw [upd_n hi2]; exact z3
        · rw [upd_n (by omega), upd_n (by omega)]; exact z4
        · show upd sm n 0 i = _
          rw [upd_n hi2]; exact z5
        · rw [upd_n (by omega), upd_n (by omega)]; exact z6 k hk
    · rw [upd_s]; exact nI_ne0 (by omega) (by omega)
    · intro j hj
      rw [upd_n (by omega), upd_n (by omega)]
theorem m_forgets (v : V12) : f_X12_forgets v = some (v.1, upd (upd (upd (upd (upd v.2.1 30 (nI 0)) 31 (nI 0)) 33 (nI 0)) 34 (nI 0)) 35 (nI 0), v.2.2) := by
  unfold f_X12_forgets
  simp (disch := decide) only [lit_nI, chk_nI, nI_clamp, bnd_e]
theorem RC_clear (B W : Nat) (F : Nat → Int32) : RC B W ((0 : Int32), (0 : Int32), (0 : Int32), (0 : Int32), (0 : Int32), (0 : Int32)) (upd (upd (upd (upd (upd F 30 (nI 0)) 31 (nI 0)) 33 (nI 0)) 34 (nI 0)) 35 (nI 0)) := ⟨0, 0, 0, by omega, by omega, by omega, rfl, rfl, rfl, rfl, rfl, rfl, rfl, by omega, by omega, fun h => absurd h (by omega), fun h => absurd h (by omega), fun _ => ⟨rfl, rfl⟩⟩
/-- start() of a watch -/
theorem starts_rel {B : Nat} {w : V10} {v : V12} (hR : R B w v.2.1) : ∃ (w2 : V10) (F2 : Nat → Int32), f_X10_beginStart w = some w2 ∧ f_X12_starts v = some (v.1, F2, v.2.2) ∧ R B w2 F2 ∧ w2.1 = w.1 ∧ w2.2.1 = w.2.1 ∧ w2.2.2.2.2.2.2.2.1 = w.2.2.2.2.2.2.2.1 ∧ w2.2.2.2.2.2.1 = w.2.2.2.2.2.1 ∧ w2.2.2.2.2.2.2.2.2.2.2.1 = w.2.2.2.2.2.2.2.2.2.2.1 ∧ w2.2.2.2.2.2.2.2.2.1 ≠ 0 ∧ w2.2.2.2.2.2.2.2.2.1 ≠ 3 ∧ w2.2.2.2.1 = (0, 0, 0, 0, 0, 0) ∧ ∀ j, 942 ≤ j → F2 j = v.2.1 j := by
  obtain ⟨s, lim, src, cnt, pool, hrd, rws, txt, st, fa, al, sts, li, si⟩ := w
  obtain ⟨c, lg, W, BL, o, hSV, hS, hLm, hO, hC, hP, hQ, hRr, w25, w26, w27, w28, w29, w30, wst⟩ := hR
  dsimp only at hSV hS hLm hO hC hP hQ hRr w25 w26 w27 w28 w29 w30 wst
  have hBL : 0 < BL := by
    obtain ⟨g0, g1, g2, g3, g4, g5, g6, g7, g8, g9, g10, g11, g12⟩ := hSV
    omega
  obtain ⟨p2, F1, j1, j2, j3, j4⟩ := lose_rel (v := v) hP hBL
  have main : ∀ t0 : Int32, t0 = 1 ∨ t0 = 2 → ∃ (r2 : V6) (F2 : Nat → Int32), f_X6_open rws = some r2 ∧ fc_X12_starts_28 (v.1, upd (upd (upd (upd (upd F1 30 (nI 0)) 31 (nI 0)) 33 (nI 0)) 34 (nI 0)) 35 (nI 0), v.2.2) t0 25 = some (v.1, F2, v.2.2) ∧ R B (s, lim, src, ((0 : Int32), (0 : Int32), (0 : Int32), (0 : Int32), (0 : Int32), (0 : Int32)), p2, hrd, r2, txt, t0, fa, al, sts + 1, li, (0 : Int32)) F2 ∧ ∀ j, 942 ≤ j → F2 j = v.2.1 j := by
    intro t0 ht0
    have k1 : ∀ j, j < 30 ∨ 35 < j → (upd (upd (upd (upd (upd F1 30 (nI 0)) 31 (nI 0)) 33 (nI 0)) 34 (nI 0)) 35 (nI 0)) j = F1 j := fun j hj => by rw [upd_n (by omega), upd_n (by omega), upd_n (by omega), upd_n (by omega), upd_n (by omega)]
    have hcl := RC_clear B W F1
    have k30 : (upd (upd (upd (upd (upd F1 30 (nI 0)) 31 (nI 0)) 33 (nI 0)) 34 (nI 0)) 35 (nI 0)) 30 = nI 0 := by rw [upd_n (by decide), upd_n (by decide), upd_n (by decide), upd_n (by decide), upd_s]
    generalize (upd (upd (upd (upd (upd F1 30 (nI 0)) 31 (nI 0)) 33 (nI 0)) 34 (nI 0)) 35 (nI 0)) = F2 at k1 hcl k30
    have k2 : ∀ j, j ≠ 25 → j ≠ 28 → upd (upd F2 25 t0) 28 (F2 28 + 1) j = F2 j := fun j a1 a2 => by rw [upd_n a2, upd_n a1]
    have f28 : F2 28 = sts := by rw [k1 28 (by omega), j4 28 (by omega)]; exact w28
    obtain ⟨r2, F3, o1, o2, o3, o4, o5⟩ := open_rel (r := rws) (v := (v.1, upd (upd F2 25 t0) 28 (F2 28 + 1), v.2.2)) (hRr.frame (fun j a1 a2 => by show upd (upd F2 25 t0) 28 (F2 28 + 1) j = _; rw [k2 j (by omega) (by omega), k1 j (by omega), j4 j (by omega)]))
    have o5 : ∀ j, j < 701 ∨ 942 ≤ j → F3 j = upd (upd F2 25 t0) 28 (F2 28 + 1) j := o5
    have m1 : ∀ j, (j < 701 ∨ 942 ≤ j) → j ≠ 25 → j ≠ 28 → F3 j = F2 j := fun j a1 a2 a3 => by rw [o5 j a1, k2 j a2 a3]
    have m2 : ∀ j, (j < 701 ∨ 942 ≤ j) → j ≠ 25 → j ≠ 28 → (j < 30 ∨ 35 < j) → F3 j = F1 j := fun j a1 a2 a3 a4 => by rw [m1 j a1 a2 a3, k1 j a4]
    have m3 : ∀ j, (j < 701 ∨ 942 ≤ j) → j ≠ 25 → j ≠ 28 → (j < 30 ∨ 35 < j) → (j < 37 ∨ 300 ≤ j) → F3 j = v.2.1 j := fun j a1 a2 a3 a4 a5 => by rw [m2 j a1 a2 a3 a4, j4 j a5]
    refine ⟨r2, F3, o1, ?_, ⟨c, lg, W, BL, o, hSV, hS.frame (fun j hj => m3 j (by omega) (by omega) (by omega) (by omega) (by omega)), hLm, hO.frame (fun j a1 a2 => m3 j (by omega) (by omega) (by omega) (by omega) (by omega)), hcl.frame (fun j a1 a2 => m1 j (by omega) (by omega) (by omega)), j3.frame (fun j a1 a2 => m2 j (by omega) (by omega) (by omega) (by omega)), hQ.frame (fun j hj => m3 j (by omega) (by omega) (by omega) (by omega) (by omega)), o3, ?_, ?_, ?_, ?_, ?_, fun _ => ⟨?_, o4⟩, ?_⟩, fun j hj => m3 j (by omega) (by omega) (by omega) (by omega) (by omega)⟩
    · unfold fc_X12_starts_28
      rw [chk_in (by unfold vp_in; decide), bnd_e, show ((25 : Int32)).toNatClampNeg = 25 from rfl, show ((28 : Int32)).toNatClampNeg = 28 from rfl, chk_in (by unfold vp_in; decide), chk_in (by unfold vp_in; decide), bnd_e, show ((701 : Int32)).toNatClampNeg = 701 from rfl, chk_in (by unfold vp_in; decide)]
      exact o2
    · show F3 25 = t0
      rw [o5 25 (by omega), upd_n (by decide)]; exact upd_s _ _ _
    · rw [m3 26 (by omega) (by omega) (by omega) (by omega) (by omega)]; exact w26
    · rw [m3 27 (by omega) (by omega) (by omega) (by omega) (by omega)]; exact w27
    · show F3 28 = sts + 1
      rw [o5 28 (by omega), upd_s, f28]
    · rw [m3 29 (by omega) (by omega) (by omega) (by omega) (by omega)]; exact w29
    · show F3 30 = 0
      rw [m1 30 (by omega) (by omega) (by omega), k30]; rfl
    · rcases ht0 with z | z
      · exact Or.inr (Or.inl z)
      · exact Or.inr (Or.inr (Or.inl z))
  have hX : ∀ t0 : Int32, ((s.1 3 = 0 ∧ t0 = 2) ∨ (s.1 3 ≠ 0 ∧ t0 = 1)) → ∀ r2 : V6, f_X6_open rws = some r2 → f_X10_beginStart (s, lim, src, cnt, pool, hrd, rws, txt, st, fa, al, sts, li, si) = some (s, lim, src, ((0 : Int32), (0 : Int32), (0 : Int32), (0 : Int32), (0 : Int32), (0 : Int32)), p2, hrd, r2, txt, t0, fa, al, sts + 1, li, (0 : Int32)) := by
    intro t0 ht0 r2 hr2
    unfold f_X10_beginStart f_X1_clear
    dsimp only
    rw [j1, bnd1_s, bnd1_s, hr2, bnd1_s, bnd_e, show (3 : Int32) = nI 3 from rfl, val_nI s (by decide), bnd1_s]
    rcases ht0 with ⟨a1, a2⟩ | ⟨a1, a2⟩
    · rw [if_pos a1, a2]
    · rw [if_neg a1, a2]
  have hM : f_X12_starts v = (if v.2.1 3 = 0 then fc_X12_starts_28 (v.1, upd (upd (upd (upd (upd F1 30 (nI 0)) 31 (nI 0)) 33 (nI 0)) 34 (nI 0)) 35 (nI 0), v.2.2) 2 25 else fc_X12_starts_28 (v.1, upd (upd (upd (upd (upd F1 30 (nI 0)) 31 (nI 0)) 33 (nI 0)) 34 (nI 0)) 35 (nI 0), v.2.2) 1 25) := by
    unfold f_X12_starts
    rw [j2, bnd1_s, m_forgets, bnd1_s, show ((3 : Int32)).toNatClampNeg = 3 from rfl, chk_in (by unfold vp_in; decide)]
    dsimp only
    have e3 : upd (upd (upd (upd (upd F1 30 (nI 0)) 31 (nI 0)) 33 (nI 0)) 34 (nI 0)) 35 (nI 0) 3 = v.2.1 3 := by
      rw [upd_n (by decide), upd_n (by decide), upd_n (by decide), upd_n (by decide), upd_n (by decide), j4 3 (by omega)]
    simp only [e3]
  have e3 : v.2.1 3 = s.1 3 := hS.1 3 (by decide)
  by_cases h3 : s.1 3 = 0
  · obtain ⟨r2, F2, b1, b2, b3, b4⟩ := main 2 (Or.inr rfl)
    exact ⟨_, F2, hX 2 (Or.inl ⟨h3, rfl⟩) r2 b1, by rw [hM, if_pos (e3.trans h3)]; exact b2, b3, rfl, rfl, rfl, rfl, rfl, (by show (2 : Int32) ≠ 0; decide), (by show (2 : Int32) ≠ 3; decide), rfl, b4⟩
  · obtain ⟨r2, F2, b1, b2, b3, b4⟩ := main 1 (Or.inl rfl)
    exact ⟨_, F2, hX 1 (Or.inr ⟨h3, rfl⟩) r2 b1, by rw [hM, if_neg (by rw [e3]; exact h3)]; exact b2, b3, rfl, rfl, rfl, rfl, rfl, (by show (1 : Int32) ≠ 0; decide), (by show (1 : Int32) ≠ 3; decide), rfl, b4⟩
/-- stop() of a watch that isn't OFF -/
theorem off_rel {B : Nat} {w : V10} {v : V12} (hR : R B w v.2.1) : ∃ (w2 : V10) (F1 F2 : Nat → Int32), f_X10_turnOff w = some w2 ∧ f_X12_empties v = some (v.1, F1, v.2.2) ∧ f_X12_forgets (v.1, F1, v.2.2) = some (v.1, F2, v.2.2) ∧ R B w2 (upd F2 25 0) ∧ w2.2.2.2.2.2.2.2.1 = w.2.2.2.2.2.2.2.1 ∧ ∀ j, 942 ≤ j → upd F2 25 0 j = v.2.1 j := by
  obtain ⟨s, lim, src, cnt, pool, hrd, rws, txt, st, fa, al, sts, li, si⟩ := w
  obtain ⟨c, lg, W, BL, o, hSV, hS, hLm, hO, hC, hP, hQ, hRr, w25, w26, w27, w28, w29, w30, wst⟩ := hR
  dsimp only at hSV hS hLm hO hC hP hQ hRr w25 w26 w27 w28 w29 w30 wst
  have hBL : 0 < BL := by
    obtain ⟨g0, g1, g2, g3, g4, g5, g6, g7, g8, g9, g10, g11, g12⟩ := hSV
    omega
  obtain ⟨p2, F1, j1, j2, j3, j4⟩ := lose_rel (v := v) hP hBL
  have k1 : ∀ j, j < 30 ∨ 35 < j → (upd (upd (upd (upd (upd F1 30 (nI 0)) 31 (nI 0)) 33 (nI 0)) 34 (nI 0)) 35 (nI 0)) j = F1 j := fun j hj => by rw [upd_n (by omega), upd_n (by omega), upd_n (by omega), upd_n (by omega), upd_n (by omega)]
  have hcl := RC_clear B W F1
  refine ⟨(s, lim, src, ((0 : Int32), (0 : Int32), (0 : Int32), (0 : Int32), (0 : Int32), (0 : Int32)), p2, hrd, rws, txt, 0, fa, al, sts, li, si), F1, _, ?_, j2, m_forgets _, ?_, rfl, ?_⟩
  · unfold f_X10_turnOff f_X1_clear
    dsimp only
    rw [j1, bnd1_s, bnd1_s]
  · dsimp only
    generalize (upd (upd (upd (upd (upd F1 30 (nI 0)) 31 (nI 0)) 33 (nI 0)) 34 (nI 0)) 35 (nI 0)) = F2 at k1 hcl
    have m1 : ∀ j, j ≠ 25 → upd F2 25 0 j = F2 j := fun j a => upd_n a
    have m2 : ∀ j, j ≠ 25 → (j < 30 ∨ 35 < j) → upd F2 25 0 j = F1 j := fun j a b => by rw [m1 j a, k1 j b]
    have m3 : ∀ j, j ≠ 25 → (j < 30 ∨ 35 < j) → (j < 37 ∨ 300 ≤ j) → upd F2 25 0 j = v.2.1 j := fun j a b d => by rw [m2 j a b, j4 j d]
    refine ⟨c, lg, W, BL, o, hSV, hS.frame (fun j hj => m3 j (by omega) (by omega) (by omega)), hLm, hO.frame (fun j a1 a2 => m3 j (by omega) (by omega) (by omega)), hcl.frame (fun j a1 a2 => m1 j (by omega)), j3.frame (fun j a1 a2 => m2 j (by omega) (by omega)), hQ.frame (fun j hj => m3 j (by omega) (by omega) (by omega)), hRr.frame (fun j a1 a2 => m3 j (by omega) (by omega) (by omega)), upd_s _ _ _, ?_, ?_, ?_, ?_, fun h => absurd rfl h, Or.inl rfl⟩
    · rw [m3 26 (by omega) (by omega) (by omega)]; exact w26
    · rw [m3 27 (by omega) (by omega) (by omega)]; exact w27
    · rw [m3 28 (by omega) (by omega) (by omega)]; exact w28
    · rw [m3 29 (by omega) (by omega) (by omega)]; exact w29
  · intro j hj
    dsimp only
    rw [upd_n (by omega), k1 j (by omega), j4 j (by omega)]
end ST
