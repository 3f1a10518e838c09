section HR
theorem hear_rel {B : Nat} {w : V10} {v : V12} {b : Int32} (hR : R B w v.2.1) (hL : LimM v w) (hb : isb b) (hB : B < 2 ^ 30) : ∃ (r : Int32) (w2 : V10) (F2 : Nat → Int32), f_X10_hear w b = some (r, w2) ∧ f_X12_hears v b = some (r, (v.1, F2, v.2.2)) ∧ R (B + 1) w2 F2 ∧ w2.1 = w.1 ∧ w2.2.1 = w.2.1 ∧ w2.2.2.1 = w.2.2.1 ∧ w2.2.2.2.2.2.2.2.1 = w.2.2.2.2.2.2.2.1 ∧ (∀ j, 942 ≤ j → F2 j = v.2.1 j) ∧ (r = 0 ∨ r = 1) := by
  obtain ⟨s, lim, src, cnt, pool, hrd, rws, txt, st, fa, al, sts, li, si⟩ := w
  obtain ⟨c, lg, W, BL, o, hSV, hS, hLm, hO, hC, hP, hQ, hRr, w25, w26, w27, w28, w29, w30, wst⟩ := hR
  obtain ⟨l1, l2, l3, Y, lY, lY2, lY3⟩ := hL
  dsimp only at hSV hS hLm hO hC hP hQ hRr w25 w26 w27 w28 w29 w30 wst l1 l2 l3 lY2
  by_cases h0 : st = 0
  · subst h0
    refine ⟨0, _, v.2.1, ?_, ?_, ⟨c, lg, W, BL, o, hSV, hS, hLm, hO, hC.mono (by omega), hP, hQ, hRr, w25, w26, w27, w28, w29, w30, wst⟩, rfl, rfl, rfl, rfl, fun _ _ => rfl, Or.inl rfl⟩
    · unfold f_X10_hear
      rw [if_pos rfl]
    · rw [m_hears, if_pos w25]
  by_cases h3 : st = 3
  · subst h3
    refine ⟨0, _, v.2.1, ?_, ?_, ⟨c, lg, W, BL, o, hSV, hS, hLm, hO, hC.mono (by omega), hP, hQ, hRr, w25, w26, w27, w28, w29, w30, wst⟩, rfl, rfl, rfl, rfl, fun _ _ => rfl, Or.inl rfl⟩
    · unfold f_X10_hear
      dsimp only
      rw [if_neg (by decide), if_pos rfl]
    · rw [m_hears, w25, if_neg (by decide), if_pos rfl]
  have hSV0 := hSV
  obtain ⟨g0, g1, g2, g3, g4, g5, g6, g7, g8, g9, g10, g11, g12, g13, g14⟩ := hSV
  obtain ⟨e30, e701⟩ := w30 h0
  -- the history
  have hQ1 : RQ 300 301 400 hrd (v.1, upd v.2.1 29 (v.2.1 29 + 1), v.2.2).2.1 := hQ.frame (fun j hj => by
    show upd v.2.1 29 _ j = _
    rw [upd_n (by omega)])
  have hist : ∃ (q2 : V4) (F2 : Nat → Int32), (∀ (rws2 : V6) (x1 x2 : Int32), f_X4_append hrd b = some q2 ∨ ∃ (x : Int32) (q1 : V4), f_X4_dropFirst hrd = some (x, q1) ∧ f_X4_append q1 b = some q2) ∧ (hrd.2.2 < 400 → f_X4_append hrd b = some q2) ∧ (¬ hrd.2.2 < 400 → ∃ (x : Int32) (q1 : V4), f_X4_dropFirst hrd = some (x, q1) ∧ f_X4_append q1 b = some q2) ∧ f_X12_comesToHistory (v.1, upd v.2.1 29 (v.2.1 29 + 1), v.2.2) b = some (v.1, F2, v.2.2) ∧ RQ 300 301 400 q2 F2 ∧ ∀ j, j < 300 ∨ 700 < j → F2 j = upd v.2.1 29 (v.2.1 29 + 1) j := by
    by_cases hlt : hrd.2.2 < 400
    · obtain ⟨q2, F2, i1, i2, i3, i4⟩ := hist_lt hQ1 hb hlt
      exact ⟨q2, F2, fun _ _ _ => Or.inl i1, fun _ => i1, fun h => absurd hlt h, i2, i3, i4⟩
    · obtain ⟨x, q1, q2, F2, i0, i1, i2, i3, i4⟩ := hist_eq hQ1 hb hlt
      exact ⟨q2, F2, fun _ _ _ => Or.inr ⟨x, q1, i0, i1⟩, fun h => absurd h hlt, fun _ => ⟨x, q1, i0, i1⟩, i2, i3, i4⟩
  obtain ⟨q2, F2, -, ha1, ha2, hm1, hQ2, hF2⟩ := hist
  -- the rows
  have hf2 : ∀ j, (j < 300 ∨ 700 < j) → j ≠ 29 → F2 j = v.2.1 j := fun j hj hj2 => by rw [hF2 j hj, upd_n hj2]
  obtain ⟨r2, F3, hx2, hm2, hRr3, e701b, hF3⟩ := rows_rel (r := rws) (v := (v.1, F2, v.2.2)) (b := b) (hRr.frame (fun j h1 h2 => hf2 j (by omega) (by omega))) hb (by show F2 701 ≠ 0; rw [hf2 701 (by omega) (by omega)]; exact e701)
  have hF3 : ∀ j, j < 702 ∨ 941 < j → F3 j = F2 j := hF3
  have hf3 : ∀ j, (j < 300 ∨ 700 < j) → (j < 702 ∨ 941 < j) → j ≠ 29 → F3 j = v.2.1 j := fun j a1 a2 a3 => by rw [hF3 j a2, hf2 j a1 a3]
  -- the tests
  obtain ⟨c2, F4, rr, hx3, hx4, hm3, hrr, hC4, e30b, hF4⟩ := tests_rel (B := B) (W := W) (c := cnt) (v := (v.1, F3, v.2.2)) b lim (hC.frame (fun j h1 h2 => hf3 j (by omega) (by omega) (by omega))) (by show F3 2 = nI W; rw [hf3 2 (by omega) (by omega) (by omega), hS.1 2 (by decide)]; exact g6) g7 g8 hB l1 l2 l3
  have hF4 : ∀ j, j < 30 ∨ 36 < j → F4 j = F3 j := hF4
  have e30b : F4 30 = F3 30 + 1 := e30b
  have hf4 : ∀ j, (j < 300 ∨ 700 < j) → (j < 702 ∨ 941 < j) → j ≠ 29 → (j < 30 ∨ 36 < j) → F4 j = v.2.1 j := fun j a1 a2 a3 a4 => by rw [hF4 j a4, hf3 j a1 a2 a3]
  have x29 : F4 29 = li + 1 := by rw [hF4 29 (by omega), hF3 29 (by omega), hF2 29 (by omega), upd_s, w29]
  have x30 : F4 30 = si + 1 := by rw [e30b, hf3 30 (by omega) (by omega) (by omega), e30]
  have x701 : F4 701 ≠ 0 := by rw [hf4 701 (by omega) (by omega) (by omega) (by omega)]; exact e701
  have hS4 : RS s F4 := hS.frame (fun j hj => hf4 j (by omega) (by omega) (by omega) (by omega))
  have hO4 : RO src F4 := hO.frame (fun j h1 h2 => hf4 j (by omega) (by omega) (by omega) (by omega))
  have hP4 : RP BL pool F4 := hP.frame (fun j h1 h2 => hf4 j (by omega) (by omega) (by omega) (by omega))
  have hQ4 : RQ 300 301 400 q2 F4 := hQ2.frame (fun j hj => by rw [hF4 j (by omega), hF3 j (by omega)])
  have hR4 : RR r2 F4 := hRr3.frame (fun j h1 h2 => hF4 j (by omega))
  have x25 : F4 25 = st := by rw [hf4 25 (by omega) (by omega) (by omega) (by omega)]; exact w25
  have x26 : F4 26 = fa := by rw [hf4 26 (by omega) (by omega) (by omega) (by omega)]; exact w26
  have x27 : F4 27 = al := by rw [hf4 27 (by omega) (by omega) (by omega) (by omega)]; exact w27
  have x28 : F4 28 = sts := by rw [hf4 28 (by omega) (by omega) (by omega) (by omega)]; exact w28
  have x3 : F4 3 = s.1 3 := hS4.1 3 (by decide)
  have hhi : ∀ j, 942 ≤ j → F4 j = v.2.1 j := fun j hj => hf4 j (by omega) (by omega) (by omega) (by omega)
  have hx3 : f_X1_hear cnt b (s.1 2) = some c2 := by rw [g6]; exact hx3
  -- the class
  have hX : f_X10_hear (s, lim, src, cnt, pool, hrd, rws, txt, st, fa, al, sts, li, si) b = (if rr = 0 then (if st = 2 then bnd1 (f_X3_feed pool s b) fun u => some (1, (s, lim, src, c2, u, q2, r2, txt, st, fa, al, sts, li + 1, si + 1)) else if si + 1 < s.1 3 then some (1, (s, lim, src, c2, pool, q2, r2, txt, st, fa, al, sts, li + 1, si + 1)) else some (1, (s, lim, src, c2, pool, q2, r2, txt, 2, fa, al, sts, li + 1, si + 1))) else bnd1 (f_X3_lose pool) fun u => some (1, (s, lim, src, c2, u, q2, r2, txt, 3, rr, al + 1, sts, li + 1, si + 1))) := by
    unfold f_X10_hear
    dsimp only
    rw [if_neg h0, if_neg h3, bnd_e, bnd_e]
    by_cases hlt : hrd.2.2 < 400
    · rw [if_pos hlt]
      exact x_58 (ha1 hlt) hx2 hx3 hx4
    · rw [if_neg hlt]
      obtain ⟨x, q1, z1, z2⟩ := ha2 hlt
      rw [z1, bnd2_s]
      exact x_58 z2 hx2 hx3 hx4
  have hM : f_X12_hears v b = (if rr ≤ 0 then (if (if st = 2 then (1 : Int32) else 0) = 0 then (if F4 30 < F4 3 then some (1, (v.1, F4, v.2.2)) else some (1, (v.1, upd F4 25 2, v.2.2))) else bnd1 (f_X12_blocks (v.1, F4, v.2.2) b) fun u => some (1, u)) else bnd1 (f_X12_empties (v.1, upd (upd (upd F4 26 rr) 27 (F4 27 + 1)) 25 3, v.2.2)) fun u => some (1, u)) := by
    rw [m_hears, w25, if_neg h0, if_neg h3]
    by_cases h2 : st = 2
    · rw [if_pos h2, if_pos h2, m_39 hm1 hm2 hm3]
    · rw [if_neg h2, if_neg h2, m_39 hm1 hm2 hm3]
  rw [hX, hM]
  by_cases hr0 : rr = 0
  · rw [if_pos hr0, if_pos (show rr ≤ 0 by rw [hr0]; exact Int32.le_refl _)]
    by_cases h2 : st = 2
    · rw [if_pos h2, if_pos h2, if_neg (show ¬ (1 : Int32) = 0 by decide)]
      obtain ⟨p2, F5, j1, j2, j3, j4⟩ := feed_rel (BL := BL) (Y := Y) (p := pool) (s := s) (v := (v.1, F4, v.2.2)) (b := b) hP4 (by omega) g11 g9 (by show F4 4 = _; rw [hS4.1 4 (by decide)]; exact g9) lY2 lY3 lY
      have j4 : ∀ j, j < 37 ∨ 300 ≤ j → F5 j = F4 j := j4
      rw [j1, j2, bnd1_s, bnd1_s]
      refine ⟨1, _, F5, rfl, rfl, ⟨c, lg, W, BL, o, hSV0, hS4.frame (fun j hj => j4 j (by omega)), hLm, hO4.frame (fun j a1 a2 => j4 j (by omega)), hC4.frame (fun j a1 a2 => j4 j (by omega)), j3, hQ4.frame (fun j hj => j4 j (by omega)), hR4.frame (fun j a1 a2 => j4 j (by omega)), ?_, ?_, ?_, ?_, ?_, fun _ => ⟨?_, ?_⟩, wst⟩, rfl, rfl, rfl, rfl, fun j hj => ?_, Or.inr rfl⟩
      · rw [j4 25 (by omega)]; exact x25
      · rw [j4 26 (by omega)]; exact x26
      · rw [j4 27 (by omega)]; exact x27
      · rw [j4 28 (by omega)]; exact x28
      · rw [j4 29 (by omega)]; exact x29
      · rw [j4 30 (by omega)]; exact x30
      · rw [j4 701 (by omega)]; exact x701
      · rw [j4 j (by omega)]; exact hhi j hj
    · have hst1 : st = 1 := by
        rcases wst with z | z | z | z
        · exact absurd z h0
        · exact z
        · exact absurd z h2
        · exact absurd z h3
      rw [if_neg h2, if_neg h2, if_pos (show (0 : Int32) = 0 from rfl)]
      by_cases hsi : si + 1 < s.1 3
      · rw [if_pos hsi, if_pos (show F4 30 < F4 3 by rw [x30, x3]; exact hsi)]
        exact ⟨1, _, F4, rfl, rfl, ⟨c, lg, W, BL, o, hSV0, hS4, hLm, hO4, hC4, hP4, hQ4, hR4, x25, x26, x27, x28, x29, fun _ => ⟨x30, x701⟩, wst⟩, rfl, rfl, rfl, rfl, hhi, Or.inr rfl⟩
      · rw [if_neg hsi, if_neg (show ¬ F4 30 < F4 3 by rw [x30, x3]; exact hsi)]
        have j4 : ∀ j, j ≠ 25 → upd F4 25 2 j = F4 j := fun j hj => upd_n hj
        refine ⟨1, _, upd F4 25 2, rfl, rfl, ⟨c, lg, W, BL, o, hSV0, hS4.frame (fun j hj => j4 j (by omega)), hLm, hO4.frame (fun j a1 a2 => j4 j (by omega)), hC4.frame (fun j a1 a2 => j4 j (by omega)), hP4.frame (fun j a1 a2 => j4 j (by omega)), hQ4.frame (fun j hj => j4 j (by omega)), hR4.frame (fun j a1 a2 => j4 j (by omega)), upd_s _ _ _, ?_, ?_, ?_, ?_, fun _ => ⟨?_, ?_⟩, Or.inr (Or.inr (Or.inl rfl))⟩, rfl, rfl, rfl, rfl, fun j hj => ?_, Or.inr rfl⟩
        · rw [j4 26 (by omega)]; exact x26
        · rw [j4 27 (by omega)]; exact x27
        · rw [j4 28 (by omega)]; exact x28
        · rw [j4 29 (by omega)]; exact x29
        · rw [j4 30 (by omega)]; exact x30
        · rw [j4 701 (by omega)]; exact x701
        · rw [j4 j (by omega)]; exact hhi j hj
  · have hpos : 0 < rr := hrr.resolve_left hr0
    rw [if_neg hr0, if_neg (show ¬ rr ≤ 0 from Int32.not_le.mpr hpos)]
    have k4 : ∀ j, j < 25 ∨ 27 < j → upd (upd (upd F4 26 rr) 27 (F4 27 + 1)) 25 3 j = F4 j := fun j hj => by rw [upd_n (by omega), upd_n (by omega), upd_n (by omega)]
    obtain ⟨p2, F5, j1, j2, j3, j4⟩ := lose_rel (BL := BL) (p := pool) (v := (v.1, upd (upd (upd F4 26 rr) 27 (F4 27 + 1)) 25 3, v.2.2)) (hP4.frame (fun j a1 a2 => k4 j (by omega))) (by omega)
    have j4 : ∀ j, j < 37 ∨ 300 ≤ j → F5 j = upd (upd (upd F4 26 rr) 27 (F4 27 + 1)) 25 3 j := j4
    have m4 : ∀ j, (j < 37 ∨ 300 ≤ j) → (j < 25 ∨ 27 < j) → F5 j = F4 j := fun j a1 a2 => by rw [j4 j a1, k4 j a2]
    rw [j1, j2, bnd1_s, bnd1_s]
    refine ⟨1, _, F5, rfl, rfl, ⟨c, lg, W, BL, o, hSV0, hS4.frame (fun j hj => m4 j (by omega) (by omega)), hLm, hO4.frame (fun j a1 a2 => m4 j (by omega) (by omega)), hC4.frame (fun j a1 a2 => m4 j (by omega) (by omega)), j3, hQ4.frame (fun j hj => m4 j (by omega) (by omega)), hR4.frame (fun j a1 a2 => m4 j (by omega) (by omega)), ?_, ?_, ?_, ?_, ?_, fun _ => ⟨?_, ?_⟩, Or.inr (Or.inr (Or.inr rfl))⟩, rfl, rfl, rfl, rfl, fun j hj => ?_, Or.inr rfl⟩
    · rw [j4 25 (by omega)]; exact upd_s _ _ _
    · rw [j4 26 (by omega), upd_n (by decide), upd_n (by decide)]; exact upd_s _ _ _
    · rw [j4 27 (by omega), upd_n (by decide), upd_s, x27]
    · rw [m4 28 (by omega) (by omega)]; exact x28
    · rw [m4 29 (by omega) (by omega)]; exact x29
    · rw [m4 30 (by omega) (by omega)]; exact x30
    · rw [m4 701 (by omega) (by omega)]; exact x701
    · rw [m4 j (by omega) (by omega)]; exact hhi j hj
end HR
