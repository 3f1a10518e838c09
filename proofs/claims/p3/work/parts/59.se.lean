section SE
theorem settings_rel {B : Nat} (v0 : V11) (v : V12) (hR : R B v0.1 v.2.1) (hT : RT v0.1.2.2.2.2.2.2.2.1 v.2.1 v.2.2.1) : ∃ (r : Int32) (w2 : V10) (u2 : V5) (v2 : V12), f_X11_settings v0 = some (r, (w2, v0.2.1, v0.2.2.1, u2, v0.2.2.2.2)) ∧ f_X12_settings v = some (r, v2) ∧ R B w2 v2.2.1 ∧ RT w2.2.2.2.2.2.2.2.1 v2.2.1 v2.2.2.1 ∧ v2.1 = 0 ∧ (∀ j, 945 ≤ j → v2.2.1 j = v.2.1 j) ∧ v2.2.2.1 = v.2.2.1 ∧ v2.2.2.2.1 = v.2.2.2.1 := by
  unfold f_X11_settings
  rcases read_rel v0.2.2.2.1 v hT with ⟨u2, v2, l1, l2, l3, l4, l5, l6⟩ | ⟨u2, v2, l1, l2, l3, l4, l5, l6, l7⟩
  · rw [l1, bnd2_s, if_pos rfl, l2]
    refine ⟨-1, (v0.1.1, v0.1.2.1, v0.1.2.2.1, v0.1.2.2.2.1, v0.1.2.2.2.2.1, v0.1.2.2.2.2.2.1, v0.1.2.2.2.2.2.2.1, (v0.1.2.2.2.2.2.2.2.1.1, 0, u2.2.2.2.2.2.2.1, u2.2.2.2.2.2.2.2), v0.1.2.2.2.2.2.2.2.2), u2, v2, ?_, rfl, ?_, ?_, l3, fun j hj => ?_, l5, l6⟩
    · unfold f_X9_refuse
      rw [bnd1_s]
    · have hR2 : R B v0.1 v2.2.1 := hR.frame (fun j hj => by rw [l4, upd_n (by omega), upd_n (by omega), upd_n (by omega)])
      exact hR2
    · refine ⟨0, by omega, rfl, ?_, ?_, ?_, fun k hk => absurd hk (by omega)⟩
      · rw [l4, upd_n (by omega), upd_n (by omega), upd_s]; rfl
      · rw [l4, upd_n (by omega), upd_s]
      · rw [l4, upd_s]
    · rw [l4, upd_n (by omega), upd_n (by omega), upd_n (by omega)]
  · obtain ⟨s3, p1, p2, p3, p4⟩ := cp7 v0.1.1 u2.1
    obtain ⟨F2, q1, q2, q3, q4, q5⟩ := m_taken2 v2
    obtain ⟨t1, ⟨c, c1, c2, c3, c4⟩, t2⟩ := l7
    have hSN : SN s3.1 := fun k hk => by
      rw [p2 k hk]
      exact t2 rfl k hk
    obtain ⟨cc, lg, W, BL, o, hSV⟩ := hSN.sv
    have hRS : RS s3 F2 := by
      refine ⟨fun k hk => by rw [q2 k (by omega), p2 k hk]; exact t1 k hk, c, c1, by rw [p4]; exact c2, by rw [q2 9 (by omega)]; exact c3, fun k hk => ?_⟩
      obtain ⟨g1, g2, g3⟩ := p3 k (by omega)
      obtain ⟨k1, k2, k3, k4⟩ := c4 k hk
      rw [q2 _ (by omega), q2 _ (by omega), q2 _ (by omega), g1, g2, g3]
      exact ⟨k1, k2, k3, k4 rfl⟩
    obtain ⟨w2, b1, b2, b3, b4⟩ := begin_rel (B := B) ((s3, v0.1.2) : V10) hSV hRS q3 q4
    rw [l1, bnd2_s, if_neg (by decide), p1, bnd1_s, l2]
    refine ⟨nI c, w2, u2, (v2.1, F2, v2.2.2), ?_, ?_, b2, ?_, l3, fun j hj => ?_, l5, l6⟩
    · rw [b1, bnd1_s, b3]
      show some (s3.2.2.2.2, _) = _
      rw [p4, c2]
    · rw [q1, bnd1_s]
      show some (F2 9, _) = _
      rw [q2 9 (by omega), c3]
    · rw [b4]
      refine ⟨0, by omega, rfl, ?_, ?_, ?_, fun k hk => absurd hk (by omega)⟩
      · show F2 942 = _
        rw [q5 942 (by omega), l4, upd_n (by omega), upd_n (by omega), upd_s]; rfl
      · show F2 943 = _
        rw [q5 943 (by omega), l4, upd_n (by omega), upd_s]
      · show F2 944 = _
        rw [q5 944 (by omega), l4, upd_s]
    · show F2 j = _
      rw [q5 j (by omega), l4, upd_n (by omega), upd_n (by omega), upd_n (by omega)]
/-- the first state of both -/
theorem init_rel (B : Nat) : ∃ (w : V10) (v : V12), f_X10_init = some w ∧ f_X12_init = some v ∧ R B w v.2.1 ∧ RT w.2.2.2.2.2.2.2.1 v.2.1 v.2.2.1 ∧ v.1 = 0 ∧ v.2.2.2.1 = fun _ => 0 := by
  obtain ⟨to2, t1, t2, t3⟩ := m_first (ra := 0) (al := upd (fun _ => 0) 944 (-1)) (tx := fun _ => 0) (sv := fun _ => 0) (le := 0) (bg := 0) (so := 0) (va := 0) (wo := 0) (wr := 0) (rz := (0, 0, 0, 0, 0, 0, 0, fun _ => 0)) 22 FU 0 0 0 0 (fun _ => 0) (by omega) (by show 22 < 8589934592; omega) (fun j hj => absurd hj (by omega))
  obtain ⟨F2, q1, q2, q3, q4, q5⟩ := m_taken2 (0, upd (fun _ => 0) 944 (-1), fun _ => 0, fun _ => 0, 0, 0, 0, 0, 0, 0, 0, -1, 0, to2, 0, 0, 0, 0, 0, 0, 0, fun _ => 0)
  dsimp only at q1 q2 q3 q4 q5
  have hSN : SN stF := fun k hk => ⟨(stF k).toNatClampNeg, stF_in k hk⟩
  obtain ⟨cc, lg, W, BL, o, hSV⟩ := hSN.sv
  have hRS : RS (stF, (fun _ => 0), (fun _ => 0), (fun _ => 0), (0 : Int32)) F2 := ⟨fun k hk => by rw [q2 k (by omega)]; exact t2 k hk, 0, by omega, rfl, by rw [q2 9 (by omega)]; exact t3 9 (by omega) (by omega), fun k hk => absurd hk (by omega)⟩
  obtain ⟨w2, b1, b2, b3, b4⟩ := begin_rel (B := B) ((((stF, (fun _ => 0), (fun _ => 0), (fun _ => 0), (0 : Int32)), ((fun _ => 0), (0 : Int32), (0 : Int32), (0 : Int32), (0 : Int32)), ((0 : Int32), (0 : Int32), (0 : Int32)), ((0 : Int32), (0 : Int32), (0 : Int32), (0 : Int32), (0 : Int32), (0 : Int32)), (((fun _ => 0), (0 : Int32), (0 : Int32)), (0 : Int32), (0 : Int32), (0 : Int32), (0 : Int32), (0 : Int32), (0 : Int32)), ((fun _ => 0), (0 : Int32), (0 : Int32)), ((fun _ => 0), (fun _ => 0), (0 : Int32)), ((fun _ => 0), (0 : Int32), (0 : Int32), (-1 : Int32)), (0 : Int32), (0 : Int32), (0 : Int32), (0 : Int32), (0 : Int32), (0 : Int32))) : V10) hSV hRS q3 q4
  refine ⟨w2, (0, F2, fun _ => 0, fun _ => 0, 0, 0, 0, 0, 0, 0, 0, -1, 0, to2, 0, 0, 0, 0, 0, 0, 0, fun _ => 0), ?_, ?_, b2, ?_, rfl, rfl⟩
  · unfold f_X10_init f_X7_init f_X2_init f_X8_init f_X1_init f_X3_init f_X4_init f_X6_init f_X9_init
    rw [bnd1_s, bnd1_s, bnd1_s, bnd1_s, bnd1_s, bnd1_s, bnd1_s, bnd1_s, bnd1_s, b1, bnd1_s]
  · unfold f_X12_init f_X12_atFirst
    rw [chk_in (show vp_in (944 : Int32) 4725 by unfold vp_in; decide), show ((944 : Int32)).toNatClampNeg = 944 from rfl, show fb_X12_atFirst_2 FU (0, upd (fun _ => 0) 944 (-1), fun _ => 0, fun _ => 0, 0, 0, 0, 0, 0, 0, 0, 0, 0, fun _ => 0, 0, 0, 0, 0, 0, 0, 0, fun _ => 0) (0 : Int32) = _ from t1, bnd1_s, q1, bnd1_s]
  · rw [b4]
    refine ⟨0, by omega, rfl, ?_, ?_, ?_, fun k hk => absurd hk (by omega)⟩
    · show F2 942 = _
      rw [q5 942 (by omega), upd_n (by omega)]; rfl
    · show F2 943 = _
      rw [q5 943 (by omega), upd_n (by omega)]
    · show F2 944 = _
      rw [q5 944 (by omega), upd_s]
end SE
