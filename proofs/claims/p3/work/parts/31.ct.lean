section CT
theorem c_step (v : V12) (b t0 t1 : Int32) : fc_X12_tests_166 v b t0 t1 34 = (if (upd (upd (upd v.2.1 34 (t1 + t0)) 32 b) 30 (v.2.1 30 + 1)) 31 < v.2.2.2.2.2.2.2.2.2.2.2.2.2.2.2.1 then fc_X12_tests_206 (v.1, upd (upd (upd v.2.1 34 (t1 + t0)) 32 b) 30 (v.2.1 30 + 1), v.2.2) 0 else fc_X12_tests_206 (v.1, upd (upd (upd v.2.1 34 (t1 + t0)) 32 b) 30 (v.2.1 30 + 1), v.2.2) 1) := by
  unfold fc_X12_tests_166
  simp (disch := decide) only [lit_nI, chk_nI, nI_clamp, bnd_e]
  rfl
theorem c_131 (v : V12) (b : Int32) : fc_X12_tests_131 v b = (if b = v.2.1 36 then fc_X12_tests_166 (v.1, upd v.2.1 33 (v.2.1 33 + 1), v.2.2) b 1 (v.2.1 34) 34 else fc_X12_tests_166 (v.1, upd v.2.1 33 (v.2.1 33 + 1), v.2.2) b 0 (v.2.1 34) 34) := by
  unfold fc_X12_tests_131
  simp (disch := decide) only [lit_nI, chk_nI, nI_clamp, bnd_e]
  rfl
theorem c_77 (v : V12) (b : Int32) : fc_X12_tests_77 v b = fc_X12_tests_131 (v.1, upd (upd (upd (upd v.2.1 33 0) 36 b) 34 0) 35 0, v.2.2) b := by
  unfold fc_X12_tests_77
  simp (disch := decide) only [lit_nI, chk_nI, nI_clamp, bnd_e]
theorem c_129 (v : V12) (b t0 t1 : Int32) : fc_X12_tests_129 v b t0 t1 35 = fc_X12_tests_131 (v.1, upd v.2.1 35 (t1 + t0), v.2.2) b := by
  unfold fc_X12_tests_129
  simp (disch := decide) only [lit_nI, chk_nI, nI_clamp, bnd_e]
theorem c_50 (v : V12) (b x2 t0 : Int32) : fc_X12_tests_50 v b x2 t0 31 = (if v.2.1 33 = v.2.1 2 then fc_X12_tests_77 (v.1, upd v.2.1 31 t0, v.2.2) b else if v.2.1 33 = 0 then fc_X12_tests_77 (v.1, upd v.2.1 31 t0, v.2.2) b else if x2 = 0 then fc_X12_tests_129 (v.1, upd v.2.1 31 t0, v.2.2) b 1 (v.2.1 35) 35 else fc_X12_tests_129 (v.1, upd v.2.1 31 t0, v.2.2) b 0 (v.2.1 35) 35) := by
  unfold fc_X12_tests_50
  simp (disch := decide) only [lit_nI, chk_nI, nI_clamp, bnd_e]
  rfl
theorem c_tests (v : V12) (b : Int32) : f_X12_tests v b = (if v.2.1 30 ≤ 0 then fc_X12_tests_50 v b 0 1 31 else if v.2.1 32 = b then fc_X12_tests_50 v b 1 (v.2.1 31 + 1) 31 else fc_X12_tests_50 v b 0 1 31) := by
  unfold f_X12_tests fc_X12_tests_25 fc_X12_tests_26
  simp (disch := decide) only [lit_nI, chk_nI, nI_clamp]
  rfl
/-- the end of the tests: c' is what the class has -/
theorem c_end (L : V2) (c : V1) (v : V12) (b t0 t1 : Int32) (e1 : v.2.1 31 = c.1) (e2 : t1 + t0 = c.2.2.2.2.1) (e3 : v.2.1 35 = c.2.2.2.2.2) (l1 : v.2.2.2.2.2.2.2.2.2.2.2.2.2.2.2.1 = L.2.2.1) (l2 : v.2.2.2.2.2.2.2.2.2.2.2.2.2.2.2.2.1 = L.2.2.2.1) (l3 : v.2.2.2.2.2.2.2.2.2.2.2.2.2.2.2.2.2.1 = L.2.2.2.2) : ∃ r : Int32, f_X2_failures L c = some r ∧ fc_X12_tests_166 v b t0 t1 34 = some (r, (v.1, upd (upd (upd v.2.1 34 (t1 + t0)) 32 b) 30 (v.2.1 30 + 1), v.2.2)) ∧ (r = 0 ∨ 0 < r) := by
  rw [c_step]
  exact fails_eq L c (v.1, upd (upd (upd v.2.1 34 (t1 + t0)) 32 b) 30 (v.2.1 30 + 1), v.2.2) e1 e2 e3 l1 l2 l3
theorem tests_rel {B W : Nat} {c : V1} {v : V12} (b : Int32) (L : V2) (hR : RC B W c v.2.1) (hW : v.2.1 2 = nI W) (hW4 : 4 ≤ W) (hW15 : W ≤ 15) (hB : B < 2 ^ 30) (l1 : v.2.2.2.2.2.2.2.2.2.2.2.2.2.2.2.1 = L.2.2.1) (l2 : v.2.2.2.2.2.2.2.2.2.2.2.2.2.2.2.2.1 = L.2.2.2.1) (l3 : v.2.2.2.2.2.2.2.2.2.2.2.2.2.2.2.2.2.1 = L.2.2.2.2) : ∃ (c2 : V1) (F2 : Nat → Int32) (r : Int32), f_X1_hear c b (nI W) = some c2 ∧ f_X2_failures L c2 = some r ∧ f_X12_tests v b = some (r, (v.1, F2, v.2.2)) ∧ (r = 0 ∨ 0 < r) ∧ RC (B + 1) W c2 F2 ∧ F2 30 = v.2.1 30 + 1 ∧ (∀ j, j < 30 ∨ 36 < j → F2 j = v.2.1 j) := by
  obtain ⟨m, al, iw, h1, h2, h3, h4, h5, h6, h7, h8, h9, h10, h11, h12, h13, h14, h15⟩ := hR
  obtain ⟨c1, c2, c3, c4, c5, c6⟩ := c
  dsimp only at h5 h7 h9 h10 h13 h14 h15
  subst h5 h7
  have hfr : ∀ (F : Nat → Int32) (x1 x2 x3 x4 x5 x6 x7 : Int32) (j : Nat), j < 30 ∨ 36 < j → upd (upd (upd (upd (upd (upd (upd F 31 x1) 35 x2) 33 x3) 34 x4) 32 x5) 30 x6) 36 x7 j = F j := by
    intro F x1 x2 x3 x4 x5 x6 x7 j hj
    rw [upd_n (by omega), upd_n (by omega), upd_n (by omega), upd_n (by omega), upd_n (by omega), upd_n (by omega), upd_n (by omega)]
  by_cases hm : m = 0
  · -- the first one
    have hal : al = 0 := h11.mp hm
    have hiw : iw = 0 := h12.mp hm
    obtain ⟨e5, e6⟩ := h15 hiw
    subst hm hal hiw e5 e6
    have key := c_end L (nI 1, b, nI 1, b, nI 1, nI 0) (v.1, upd (upd (upd (upd (upd (upd v.2.1 31 1) 33 0) 36 b) 34 0) 35 0) 33 (0 + 1), v.2.2) b 1 0 rfl rfl rfl l1 l2 l3
    obtain ⟨r, k1, k2, k3⟩ := key
    refine ⟨(nI 1, b, nI 1, b, nI 1, nI 0), _, r, ?_, k1, Eq.trans ?_ k2, k3, ?_, ?_, ?_⟩
    · unfold f_X1_hear fc_X1_hear_23 fc_X1_hear_56 fc_X1_hear_74 fc_X1_hear_99 fc_X1_hear_100
      dsimp only
      rw [if_pos (nI_lt (by omega) (by omega)), if_pos nI_0, if_pos rfl]
      dsimp only [bnd]
      rw [if_pos (by decide)]
      rfl
    · rw [c_tests, h4, if_pos (by decide), c_50, hW, h8, if_neg (by rw [nI_eq (by omega) (by omega)]; omega), if_pos nI_0, c_77, c_131]
      exact if_pos rfl
    · refine ⟨1, 1, 1, by omega, by omega, by omega, ?_, rfl, rfl, rfl, rfl, rfl, rfl, by omega, by omega, fun _ => rfl, fun _ => rfl, fun q => by omega⟩
      show v.2.1 30 + 1 = nI 1
      rw [h4]; rfl
    · rfl
    · intro j hj
      dsimp only
      rw [upd_n (by omega), upd_n (by omega), upd_n (by omega), upd_n (by omega), upd_n (by omega), upd_n (by omega), upd_n (by omega), upd_n (by omega), upd_n (by omega)]
  have hm0 : 0 < m := by omega
  have hiw0 : 0 < iw := by omega
  have hal0 : 0 < al := by omega
  have hl := h13 hm0
  have hf := h14 hiw0
  have g30 : ¬ v.2.1 30 ≤ 0 := by rw [h4]; exact nI_nle hm0 (by omega)
  have gal : ¬ nI al ≤ 0 := nI_nle hal0 (by omega)
  have e30 : v.2.1 30 + 1 = nI (m + 1) := by rw [h4]; exact nI_1 m
  by_cases hlast : c2 = b
  · -- like the last one
    by_cases hw : iw = W
    · have key := c_end L (nI al + 1, b, nI 1, b, nI 1, nI 0) (v.1, upd (upd (upd (upd (upd (upd v.2.1 31 (v.2.1 31 + 1)) 33 0) 36 b) 34 0) 35 0) 33 (0 + 1), v.2.2) b 1 0 (by show v.2.1 31 + 1 = nI al + 1; rw [h6]) rfl rfl l1 l2 l3
      obtain ⟨r, k1, k2, k3⟩ := key
      refine ⟨(nI al + 1, b, nI 1, b, nI 1, nI 0), _, r, ?_, k1, Eq.trans ?_ k2, k3, ?_, ?_, ?_⟩
      · unfold f_X1_hear fc_X1_hear_23 fc_X1_hear_56 fc_X1_hear_74 fc_X1_hear_99 fc_X1_hear_100
        dsimp only
        rw [if_neg (nI_nlt (by omega) (by omega)), if_pos rfl, if_pos rfl]
        dsimp only [bnd]
        rw [if_neg gal, if_pos hlast.symm]
        rfl
      · rw [c_tests, if_neg g30, hl, if_pos hlast, c_50, hW, h8, hw, if_pos rfl, c_77, c_131]
        exact if_pos rfl
      · refine ⟨m + 1, al + 1, 1, by omega, by omega, by omega, e30, nI_1 al, ?_, rfl, rfl, rfl, rfl, by omega, by omega, fun _ => rfl, fun _ => rfl, fun q => by omega⟩
        show v.2.1 31 + 1 = _
        rw [h6]; exact nI_1 al
      · rfl
      · intro j hj
        dsimp only
        rw [upd_n (by omega), upd_n (by omega), upd_n (by omega), upd_n (by omega), upd_n (by omega), upd_n (by omega), upd_n (by omega), upd_n (by omega), upd_n (by omega)]
    · by_cases hfi : b = c4
      · have key := c_end L (nI al + 1, b, nI iw + 1, c4, c5 + 1, c6) (v.1, upd (upd (upd v.2.1 31 (v.2.1 31 + 1)) 35 (v.2.1 35 + 0)) 33 (v.2.1 33 + 1), v.2.2) b 1 (v.2.1 34) (by show v.2.1 31 + 1 = nI al + 1; rw [h6]) (by show v.2.1 34 + 1 = c5 + 1; rw [h9]) (by show v.2.1 35 + 0 = c6; rw [h10, Int32.add_zero]) l1 l2 l3
        obtain ⟨r, k1, k2, k3⟩ := key
        refine ⟨(nI al + 1, b, nI iw + 1, c4, c5 + 1, c6), _, r, ?_, k1, Eq.trans ?_ k2, k3, ?_, ?_, ?_⟩
        · unfold f_X1_hear fc_X1_hear_23 fc_X1_hear_56 fc_X1_hear_74 fc_X1_hear_99 fc_X1_hear_100
          dsimp only
          rw [if_pos (nI_lt (by omega) (by omega)), if_neg (nI_ne0 hiw0 (by omega)), if_pos hlast.symm, if_pos hfi]
          dsimp only [bnd]
          rw [if_neg gal, if_pos hlast.symm]
        · rw [c_tests, if_neg g30, hl, if_pos hlast, c_50, hW, h8, if_neg (by rw [nI_eq (by omega) (by omega)]; exact hw), if_neg (nI_ne0 hiw0 (by omega)), if_neg (by decide), c_129, c_131]
          rw [← h8]
          exact if_pos (show b = v.2.1 36 by rw [hf]; exact hfi)
        · refine ⟨m + 1, al + 1, iw + 1, by omega, by omega, by omega, e30, nI_1 al, ?_, nI_1 iw, ?_, ?_, ?_, by omega, by omega, fun _ => rfl, fun _ => hf, fun q => by omega⟩
          · show v.2.1 31 + 1 = _
            rw [h6]; exact nI_1 al
          · show v.2.1 33 + 1 = _
            rw [h8]; exact nI_1 iw
          · show v.2.1 34 + 1 = c5 + 1
            rw [h9]
          · show v.2.1 35 + 0 = c6
            rw [h10, Int32.add_zero]
        · rfl
        · intro j hj
          dsimp only
          rw [upd_n (by omega), upd_n (by omega), upd_n (by omega), upd_n (by omega), upd_n (by omega), upd_n (by omega)]
      · have key := c_end L (nI al + 1, b, nI iw + 1, c4, c5, c6) (v.1, upd (upd (upd v.2.1 31 (v.2.1 31 + 1)) 35 (v.2.1 35 + 0)) 33 (v.2.1 33 + 1), v.2.2) b 0 (v.2.1 34) (by show v.2.1 31 + 1 = nI al + 1; rw [h6]) (by show v.2.1 34 + 0 = c5; rw [h9, Int32.add_zero]) (by show v.2.1 35 + 0 = c6; rw [h10, Int32.add_zero]) l1 l2 l3
        obtain ⟨r, k1, k2, k3⟩ := key
        refine ⟨(nI al + 1, b, nI iw + 1, c4, c5, c6), _, r, ?_, k1, Eq.trans ?_ k2, k3, ?_, ?_, ?_⟩
        · unfold f_X1_hear fc_X1_hear_23 fc_X1_hear_56 fc_X1_hear_74 fc_X1_hear_99 fc_X1_hear_100
          dsimp only
          rw [if_pos (nI_lt (by omega) (by omega)), if_neg (nI_ne0 hiw0 (by omega)), if_pos hlast.symm, if_neg hfi, if_neg gal, if_pos hlast.symm]
          rfl
        · rw [c_tests, if_neg g30, hl, if_pos hlast, c_50, hW, h8, if_neg (by rw [nI_eq (by omega) (by omega)]; exact hw), if_neg (nI_ne0 hiw0 (by omega)), if_neg (by decide), c_129, c_131]
          rw [← h8]
          exact if_neg (show ¬ b = v.2.1 36 by rw [hf]; exact hfi)
        · refine ⟨m + 1, al + 1, iw + 1, by omega, by omega, by omega, e30, nI_1 al, ?_, nI_1 iw, ?_, ?_, ?_, by omega, by omega, fun _ => rfl, fun _ => hf, fun q => by omega⟩
          · show v.2.1 31 + 1 = _
            rw [h6]; exact nI_1 al
          · show v.2.1 33 + 1 = _
            rw [h8]; exact nI_1 iw
          · show v.2.1 34 + 0 = c5
            rw [h9, Int32.add_zero]
          · show v.2.1 35 + 0 = c6
            rw [h10, Int32.add_zero]
        · rfl
        · intro j hj
          dsimp only
          rw [upd_n (by omega), upd_n (by omega), upd_n (by omega), upd_n (by omega), upd_n (by omega), upd_n (by omega)]
  · -- unlike the last one
    have hlast2 : ¬ b = c2 := fun q => hlast q.symm
    by_cases hw : iw = W
    · have key := c_end L (nI 1, b, nI 1, b, nI 1, nI 0) (v.1, upd (upd (upd (upd (upd (upd v.2.1 31 1) 33 0) 36 b) 34 0) 35 0) 33 (0 + 1), v.2.2) b 1 0 rfl rfl rfl l1 l2 l3
      obtain ⟨r, k1, k2, k3⟩ := key
      refine ⟨(nI 1, b, nI 1, b, nI 1, nI 0), _, r, ?_, k1, Eq.trans ?_ k2, k3, ?_, ?_, ?_⟩
      · unfold f_X1_hear fc_X1_hear_23 fc_X1_hear_56 fc_X1_hear_74 fc_X1_hear_99 fc_X1_hear_100
        dsimp only
        rw [if_neg (nI_nlt (by omega) (by omega)), if_pos rfl, if_pos rfl]
        dsimp only [bnd]
        rw [if_neg gal, if_neg hlast2]
        rfl
      · rw [c_tests, if_neg g30, hl, if_neg hlast, c_50, hW, h8, hw, if_pos rfl, c_77, c_131]
        exact if_pos rfl
      · exact ⟨m + 1, 1, 1, by omega, by omega, by omega, e30, rfl, rfl, rfl, rfl, rfl, rfl, by omega, by omega, fun _ => rfl, fun _ => rfl, fun q => by omega⟩
      · rfl
      · intro j hj
        dsimp only
        rw [upd_n (by omega), upd_n (by omega), upd_n (by omega), upd_n (by omega), upd_n (by omega), upd_n (by omega), upd_n (by omega), upd_n (by omega), upd_n (by omega)]
    · by_cases hfi : b = c4
      · have key := c_end L (nI 1, b, nI iw + 1, c4, c5 + 1, c6 + 1) (v.1, upd (upd (upd v.2.1 31 1) 35 (v.2.1 35 + 1)) 33 (v.2.1 33 + 1), v.2.2) b 1 (v.2.1 34) rfl (by show v.2.1 34 + 1 = c5 + 1; rw [h9]) (by show v.2.1 35 + 1 = c6 + 1; rw [h10]) l1 l2 l3
        obtain ⟨r, k1, k2, k3⟩ := key
        refine ⟨(nI 1, b, nI iw + 1, c4, c5 + 1, c6 + 1), _, r, ?_, k1, Eq.trans ?_ k2, k3, ?_, ?_, ?_⟩
        · unfold f_X1_hear fc_X1_hear_23 fc_X1_hear_56 fc_X1_hear_74 fc_X1_hear_99 fc_X1_hear_100
          dsimp only
          rw [if_pos (nI_lt (by omega) (by omega)), if_neg (nI_ne0 hiw0 (by omega)), if_neg hlast2]
          dsimp only [bnd]
          rw [if_pos hfi, if_neg gal, if_neg hlast2]
          rfl
        · rw [c_tests, if_neg g30, hl, if_neg hlast, c_50, hW, h8, if_neg (by rw [nI_eq (by omega) (by omega)]; exact hw), if_neg (nI_ne0 hiw0 (by omega)), if_pos rfl, c_129, c_131]
          rw [← h8]
          exact if_pos (show b = v.2.1 36 by rw [hf]; exact hfi)
        · refine ⟨m + 1, 1, iw + 1, by omega, by omega, by omega, e30, rfl, rfl, nI_1 iw, ?_, ?_, ?_, by omega, by omega, fun _ => rfl, fun _ => hf, fun q => by omega⟩
          · show v.2.1 33 + 1 = _
            rw [h8]; exact nI_1 iw
          · show v.2.1 34 + 1 = c5 + 1
            rw [h9]
          · show v.2.1 35 + 1 = c6 + 1
            rw [h10]
        · rfl
        · intro j hj
          dsimp only
          rw [upd_n (by omega), upd_n (by omega), upd_n (by omega), upd_n (by omega), upd_n (by omega), upd_n (by omega)]
      · have key := c_end L (nI 1, b, nI iw + 1, c4, c5, c6 + 1) (v.1, upd (upd (upd v.2.1 31 1) 35 (v.2.1 35 + 1)) 33 (v.2.1 33 + 1), v.2.2) b 0 (v.2.1 34) rfl (by show v.2.1 34 + 0 = c5; rw [h9, Int32.add_zero]) (by show v.2.1 35 + 1 = c6 + 1; rw [h10]) l1 l2 l3
        obtain ⟨r, k1, k2, k3⟩ := key
        refine ⟨(nI 1, b, nI iw + 1, c4, c5, c6 + 1), _, r, ?_, k1, Eq.trans ?_ k2, k3, ?_, ?_, ?_⟩
        · unfold f_X1_hear fc_X1_hear_23 fc_X1_hear_56 fc_X1_hear_74 fc_X1_hear_99 fc_X1_hear_100
          dsimp only
          rw [if_pos (nI_lt (by omega) (by omega)), if_neg (nI_ne0 hiw0 (by omega)), if_neg hlast2]
          dsimp only [bnd]
          rw [if_neg hfi, if_neg gal, if_neg hlast2]
          rfl
        · rw [c_tests, if_neg g30, hl, if_neg hlast, c_50, hW, h8, if_neg (by rw [nI_eq (by omega) (by omega)]; exact hw), if_neg (nI_ne0 hiw0 (by omega)), if_pos rfl, c_129, c_131]
          rw [← h8]
          exact if_neg (show ¬ b = v.2.1 36 by rw [hf]; exact hfi)
        · refine ⟨m + 1, 1, iw + 1, by omega, by omega, by omega, e30, rfl, rfl, nI_1 iw, ?_, ?_, ?_, by omega, by omega, fun _ => rfl, fun _ => hf, fun q => by omega⟩
          · show v.2.1 33 + 1 = _
            rw [h8]; exact nI_1 iw
          · show v.2.1 34 + 0 = c5
            rw [h9, Int32.add_zero]
          · show v.2.1 35 + 1 = c6 + 1
            rw [h10]
        · rfl
        · intro j hj
          dsimp only
          rw [upd_n (by omega), upd_n (by omega), upd_n (by omega), upd_n (by omega), upd_n (by omega), upd_n (by omega)]
end CT
