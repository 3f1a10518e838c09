section WRS
/-- the watch after a call that changes it -/
def WR (B : Nat) (v : V12) (w : V10) (v2 : V12) : Prop := R B w v2.2.1 ∧ RT w.2.2.2.2.2.2.2.1 v2.2.1 v2.2.2.1 ∧ (∀ j, 945 ≤ j → v2.2.1 j = v.2.1 j) ∧ (∀ j, 300 ≤ j → v2.2.2.1 j = v.2.2.1 j) ∧ v2.2.2.2.1 = v.2.2.2.1
theorem WR.same {B B2 : Nat} {v v2 : V12} {w : V10} (hR : R B w v.2.1) (hT : RT w.2.2.2.2.2.2.2.1 v.2.1 v.2.2.1) (hB : B ≤ B2) (h : v2.2 = v.2) : WR B2 v w v2 := by
  unfold WR
  rw [h]
  exact ⟨hR.mono hB, hT, fun _ _ => rfl, fun _ _ => rfl, rfl⟩
theorem w_tell {B B2 : Nat} {v0 : V11} {v : V12} (hR : R B v0.1 v.2.1) (hT : RT v0.1.2.2.2.2.2.2.2.1 v.2.1 v.2.2.1) (hB : B ≤ B2) (e : Int64) : ∃ (r : Int32) (u : V11) (v2 : V12), f_X11_tell v0 e = some (r, u) ∧ f_X12_tell v e = some (r, v2) ∧ WR B2 v u.1 v2 := by
  obtain ⟨r, t2, F2, tx2, a1, a2, a3, a4, a5⟩ := tell_rel e hT
  refine ⟨r, ((v0.1.1, v0.1.2.1, v0.1.2.2.1, v0.1.2.2.2.1, v0.1.2.2.2.2.1, v0.1.2.2.2.2.2.1, v0.1.2.2.2.2.2.2.1, t2, v0.1.2.2.2.2.2.2.2.2), v0.2), (0, F2, tx2, v.2.2.2), ?_, a2, ?_, a3, fun j hj => a4 j (by omega), a5, rfl⟩
  · unfold f_X11_tell
    rw [a1, bnd2_s]
  · have hR2 : R B2 v0.1 F2 := (hR.frame (fun j hj => a4 j (by omega))).mono hB
    exact hR2
theorem w_settings {B B2 : Nat} {v0 : V11} {v : V12} (hR : R B v0.1 v.2.1) (hT : RT v0.1.2.2.2.2.2.2.2.1 v.2.1 v.2.2.1) (hB : B ≤ B2) : ∃ (r : Int32) (u : V11) (v2 : V12), f_X11_settings v0 = some (r, u) ∧ f_X12_settings v = some (r, v2) ∧ WR B2 v u.1 v2 := by
  obtain ⟨r, w2, u2, v2, a1, a2, a3, a4, a5, a6, a7, a8⟩ := settings_rel v0 v (hR.mono hB) hT
  exact ⟨r, (w2, v0.2.1, v0.2.2.1, u2, v0.2.2.2.2), v2, a1, a2, a3, a4, a6, fun _ _ => by rw [a7], a8⟩
theorem RT.keep {w w2 : V10} {v v2 : V12} (hT : RT w.2.2.2.2.2.2.2.1 v.2.1 v.2.2.1) (e1 : w2.2.2.2.2.2.2.2.1 = w.2.2.2.2.2.2.2.1) (e2 : ∀ j, 942 ≤ j → v2.2.1 j = v.2.1 j) (e3 : v2.2.2.1 = v.2.2.1) : RT w2.2.2.2.2.2.2.2.1 v2.2.1 v2.2.2.1 := by
  rw [e1, e3]
  exact hT.copy (fun _ _ => rfl) rfl (fun j h1 h2 => e2 j h1) (fun _ _ => rfl)
theorem R.s28 {B : Nat} {w : V10} {F : Nat → Int32} (hR : R B w F) : F 28 = w.2.2.2.2.2.2.2.2.2.2.2.1 := by
  obtain ⟨c, lg, W, BL, o, hSV, hS, hLm, hO, hC, hP, hQ, hRr, w25, w26, w27, w28, w29, w30, wst⟩ := hR
  exact w28
theorem w_start {B B2 : Nat} {v0 : V11} {v : V12} (hR : R B v0.1 v.2.1) (hT : RT v0.1.2.2.2.2.2.2.2.1 v.2.1 v.2.2.1) (hB : B ≤ B2) : ∃ (r : Int32) (u : V11) (v2 : V12), f_X11_start v0 = some (r, u) ∧ f_X12_start v = some (r, v2) ∧ WR B2 v u.1 v2 := by
  obtain ⟨w2, F2, s1, s2, s3, s4, s5, s6, s7, s8, s9, s10, s11, s12⟩ := starts_rel (v := (0, v.2)) hR
  refine ⟨w2.2.2.2.2.2.2.2.2.2.2.2.1, (w2, v0.2), (0, F2, v.2.2), ?_, ?_, s3.mono hB, RT.keep (v := v) (v2 := (0, F2, v.2.2)) hT s6 s12 rfl, fun j hj => s12 j (by omega), fun _ _ => rfl, rfl⟩
  · unfold f_X11_start
    rw [s1, bnd1_s]
  · unfold f_X12_start
    rw [s2, bnd1_s, chk_in (show vp_in (28 : Int32) 4725 by unfold vp_in; decide), show ((28 : Int32)).toNatClampNeg = 28 from rfl]
    dsimp only
    rw [s3.s28]
theorem w_stop {B B2 : Nat} {v0 : V11} {v : V12} (hR : R B v0.1 v.2.1) (hT : RT v0.1.2.2.2.2.2.2.2.1 v.2.1 v.2.2.1) (hB : B ≤ B2) : ∃ (r : Int32) (u : V11) (v2 : V12), f_X11_stop v0 = some (r, u) ∧ f_X12_stop v = some (r, v2) ∧ WR B2 v u.1 v2 := by
  have h25 := hR.st25.1
  have h25i : vp_in (25 : Int32) 4725 := by unfold vp_in; decide
  unfold f_X11_stop f_X12_stop
  rw [chk_in h25i, show ((25 : Int32)).toNatClampNeg = 25 from rfl]
  by_cases h : v0.1.2.2.2.2.2.2.2.2.1 = 0
  · rw [if_pos h, if_pos (h25.trans h)]
    exact ⟨0, v0, (0, v.2), rfl, rfl, WR.same hR hT hB rfl⟩
  · obtain ⟨w2, F1, F2, o1, o2, o3, o4, o5, o6⟩ := off_rel (v := (0, v.2)) hR
    have o3' : f_X12_forgets ((0 : Int32), F1, v.2.2) = some (0, F2, v.2.2) := o3
    rw [if_neg h, if_neg (show ¬ v.2.1 25 = 0 by rw [h25]; exact h), o1, bnd1_s, o2, bnd1_s]
    dsimp only
    rw [o3', bnd1_s, chk_in h25i, bnd_e]
    exact ⟨1, (w2, v0.2), (0, upd F2 25 0, v.2.2), rfl, rfl, o4.mono hB, RT.keep (v := v) (v2 := (0, upd F2 25 0, v.2.2)) hT o5 o6 rfl, fun j hj => o6 j (by omega), fun _ _ => rfl, rfl⟩
/-- from 1 to m or not -/
theorem in1 (p : Int32) {m : Nat} (hm : m < 2 ^ 31) : (∃ k : Nat, 1 ≤ k ∧ k ≤ m ∧ p = nI k ∧ f_X12_in p 1 (nI m) = some 1) ∨ ((p < 1 ∨ (¬ p < 1 ∧ ¬ p ≤ nI m)) ∧ f_X12_in p 1 (nI m) = some 0) := by
  by_cases a1 : p < 1
  · refine Or.inr ⟨Or.inl a1, ?_⟩
    unfold f_X12_in
    rw [if_pos a1]
  · have h0 : ¬ p < 0 := fun q => a1 (by
      rw [Int32.lt_iff_toInt_lt] at q ⊢
      rw [show (0 : Int32).toInt = 0 from rfl] at q
      rw [show (1 : Int32).toInt = 1 from rfl]
      omega)
    obtain ⟨n, hn, e⟩ := nI_of h0
    subst e
    have hn1 : 1 ≤ n := Nat.le_of_not_lt (fun q => a1 (nI_lt (b := 1) q (by decide)))
    have i1 : f_X12_in (nI n) 1 (nI m) = some (if (decide (1 ≤ n) && decide (n ≤ m)) = true then 1 else 0) := m_in2 (a := 1) (b := m) (by decide) hm hn
    by_cases a2 : n ≤ m
    · rw [if_pos (in_dec ⟨hn1, a2⟩)] at i1
      exact Or.inl ⟨n, hn1, a2, rfl, i1⟩
    · rw [if_neg (in_ndec (by omega))] at i1
      exact Or.inr ⟨Or.inr ⟨a1, nI_ge (by omega) hn⟩, i1⟩
theorem w_draw {B : Nat} {v0 : V11} {v : V12} (hR : R B v0.1 v.2.1) (hT : RT v0.1.2.2.2.2.2.2.2.1 v.2.1 v.2.2.1) (hB : B + 400 < 2 ^ 30) (p : Int32) : ∃ (r : Int32) (u : V11) (v2 : V12), f_X11_draw v0 p = some (r, u) ∧ f_X12_draw v p = some (r, v2) ∧ WR (B + 400) v u.1 v2 := by
  unfold f_X11_draw f_X12_draw
  rw [show f_X12_in p 1 400 = f_X12_in p 1 (nI 400) from rfl]
  rcases in1 p (m := 400) (by decide) with ⟨n, n1, n2, e, i1⟩ | ⟨hn, i1⟩
  · obtain ⟨r, w2, v2, d1, d2, d3, d4, d5, d6, d7, d8⟩ := draws_rel (v := (0, v.2)) hR n2 (by omega)
    rw [i1, bnd1_s, if_neg (show ¬ (1 : Int32) = 0 by decide), e, if_neg (show ¬ nI n < (1 : Int32) from nI_nlt (b := 1) n1 (by omega)), if_pos (show nI n ≤ (400 : Int32) from nI_le (b := 400) n2 (by decide)), d1, bnd2_s, d2, bnd2_s]
    exact ⟨r, (w2, v0.2), v2, rfl, rfl, d3.mono (by omega), RT.keep (v := v) (v2 := v2) hT d4 d8 d5, fun j hj => d8 j (by omega), fun _ _ => by rw [d5], d6⟩
  · rw [i1, bnd1_s, if_pos rfl]
    rcases hn with hn | ⟨hn, hn2⟩
    · rw [if_pos hn]
      exact ⟨-1, v0, (0, v.2), rfl, rfl, WR.same hR hT (by omega) rfl⟩
    · rw [if_neg hn, if_neg (show ¬ p ≤ (400 : Int32) from hn2)]
      exact ⟨-1, v0, (0, v.2), rfl, rfl, WR.same hR hT (by omega) rfl⟩
theorem w_hand {B : Nat} {v0 : V11} {v : V12} (hR : R B v0.1 v.2.1) (hT : RT v0.1.2.2.2.2.2.2.2.1 v.2.1 v.2.2.1) (hB : B + 400 < 2 ^ 30) (bits p : Int32) : ∃ (r : Int32) (u : V11) (v2 : V12), f_X11_hand v0 bits p = some (r, u) ∧ f_X12_hand v bits p = some (r, v2) ∧ WR (B + 400) v u.1 v2 := by
  unfold f_X11_hand f_X12_hand
  rw [show f_X12_in p 1 32 = f_X12_in p 1 (nI 32) from rfl]
  rcases in1 p (m := 32) (by decide) with ⟨n, n1, n2, e, i1⟩ | ⟨hn, i1⟩
  · obtain ⟨v1, q1, q2, q3, q4, q5, q6⟩ := lays2 (v := (0, v.2)) hR
    obtain ⟨r, w2, F2, d1, d2, d3, d4, d5⟩ := hand_loop bits n FU FU B 0 v0 v1 (by rw [q4]; exact hR) q2 (by omega) n2 (by show n < 8589934592; omega) (by show n < 8589934592; omega)
    have hc : ∀ j, 942 ≤ j → F2 j = v.2.1 j := fun j hj => (d5 j hj).trans (by rw [q4])
    rw [i1, bnd1_s, if_neg (show ¬ (1 : Int32) = 0 by decide), e, if_neg (show ¬ nI n < (1 : Int32) from nI_nlt (b := 1) n1 (by omega)), if_pos (show nI n ≤ (32 : Int32) from nI_le (b := 32) n2 (by decide)), bnd_e, d1, q1, bnd1_s, bnd_e, d2]
    exact ⟨r, (w2, v0.2), (v1.1, F2, v1.2.2), rfl, rfl, d3.mono (by omega), RT.keep (v := v) (v2 := (v1.1, F2, v1.2.2)) hT d4 hc q5, fun j hj => hc j (by omega), fun _ _ => by show v1.2.2.1 _ = _; rw [q5], q6⟩
  · rw [i1, bnd1_s, if_pos rfl]
    rcases hn with hn | ⟨hn, hn2⟩
    · rw [if_pos hn]
      exact ⟨-1, v0, (0, v.2), rfl, rfl, WR.same hR hT (by omega) rfl⟩
    · rw [if_neg hn, if_neg (show ¬ p ≤ (32 : Int32) from hn2)]
      exact ⟨-1, v0, (0, v.2), rfl, rfl, WR.same hR hT (by omega) rfl⟩
theorem w_take {B B2 : Nat} {v0 : V11} {v : V12} (hR : R B v0.1 v.2.1) (hT : RT v0.1.2.2.2.2.2.2.2.1 v.2.1 v.2.2.1) (hB : B ≤ B2) (p : Int32) : ∃ (r : Int32) (u : V11) (v2 : V12), f_X11_take v0 p = some (r, u) ∧ f_X12_take v p = some (r, v2) ∧ WR B2 v u.1 v2 := by
  unfold f_X11_take f_X12_take
  rw [show f_X12_in p 1 30 = f_X12_in p 1 (nI 30) from rfl]
  rcases in1 p (m := 30) (by decide) with ⟨n, n1, n2, e, i1⟩ | ⟨hn, i1⟩
  · obtain ⟨c, lg, W, BL, o, hSV, hS, hLm, hO, hC, hP, hQ, hRr, w25, w26, w27, w28, w29, w30, wst⟩ := hR
    obtain ⟨r, p2, F2, d1, d2, d3, d4⟩ := take_rel (v := (0, v.2)) hP n1 n2
    have d2' : (if nI n ≤ v.2.1 43 then fb_X12_take_32 FU ((0 : Int32), v.2) (nI n) 0 0 else some (-1, ((0 : Int32), v.2))) = some (r, ((0 : Int32), F2, v.2.2)) := d2
    rw [i1, bnd1_s, if_neg (show ¬ (1 : Int32) = 0 by decide), e, if_neg (show ¬ nI n < (1 : Int32) from nI_nlt (b := 1) n1 (by omega)), if_pos (show nI n ≤ (30 : Int32) from nI_le (b := 30) n2 (by decide)), d1, bnd2_s, chk_in (show vp_in (43 : Int32) 4725 by unfold vp_in; decide), show ((43 : Int32)).toNatClampNeg = 43 from rfl, d2']
    have e4 : ∀ j, j < 37 ∨ 300 ≤ j → F2 j = v.2.1 j := d4
    refine ⟨r, ((v0.1.1, v0.1.2.1, v0.1.2.2.1, v0.1.2.2.2.1, p2, v0.1.2.2.2.2.2), v0.2), (0, F2, v.2.2), rfl, rfl, ?_, RT.keep (v := v) (v2 := (0, F2, v.2.2)) (w := v0.1) hT rfl (fun j hj => e4 j (by omega)) rfl, fun j hj => e4 j (by omega), fun _ _ => rfl, rfl⟩
    have hR2 : R B (v0.1.1, v0.1.2.1, v0.1.2.2.1, v0.1.2.2.2.1, p2, v0.1.2.2.2.2.2) F2 := by
      refine ⟨c, lg, W, BL, o, hSV, hS.frame (fun j hj => e4 j (by omega)), hLm, hO.frame (fun j a1 a2 => e4 j (by omega)), hC.frame (fun j a1 a2 => e4 j (by omega)), d3, hQ.frame (fun j hj => e4 j (by omega)), hRr.frame (fun j a1 a2 => e4 j (by omega)), ?_, ?_, ?_, ?_, ?_, fun h => ⟨?_, ?_⟩, wst⟩
      · rw [e4 25 (by omega)]; exact w25
      · rw [e4 26 (by omega)]; exact w26
      · rw [e4 27 (by omega)]; exact w27
      · rw [e4 28 (by omega)]; exact w28
      · rw [e4 29 (by omega)]; exact w29
      · rw [e4 30 (by omega)]; exact (w30 h).1
      · rw [e4 701 (by omega)]; exact (w30 h).2
    exact hR2.mono hB
  · rw [i1, bnd1_s, if_pos rfl]
    rcases hn with hn | ⟨hn, hn2⟩
    · rw [if_pos hn]
      exact ⟨-1, v0, (0, v.2), rfl, rfl, WR.same hR hT hB rfl⟩
    · rw [if_neg hn, if_neg (show ¬ p ≤ (30 : Int32) from hn2)]
      exact ⟨-1, v0, (0, v.2), rfl, rfl, WR.same hR hT hB rfl⟩
/-- an image that is kept -/
def KI (B k : Nat) (o : Option V10) (v : V12) : Prop := (o = none ∧ v.2.2.2.1 k = 0) ∨ ∃ w : V10, o = some w ∧ v.2.2.2.1 k ≠ 0 ∧ R B w (fun j => v.2.1 (945 * (k + 1) + j)) ∧ RT w.2.2.2.2.2.2.2.1 (fun j => v.2.1 (945 * (k + 1) + j)) (fun j => v.2.2.1 (300 * (k + 1) + j))
theorem KI.frame {B B2 k : Nat} {o : Option V10} {v v2 : V12} (h : KI B k o v) (hB : B ≤ B2) (e1 : ∀ j, j < 945 → v2.2.1 (945 * (k + 1) + j) = v.2.1 (945 * (k + 1) + j)) (e2 : ∀ j, j < 300 → v2.2.2.1 (300 * (k + 1) + j) = v.2.2.1 (300 * (k + 1) + j)) (e3 : v2.2.2.2.1 k = v.2.2.2.1 k) : KI B2 k o v2 := by
  rcases h with ⟨h1, h2⟩ | ⟨w, h1, h2, h3, h4⟩
  · exact Or.inl ⟨h1, e3.trans h2⟩
  · refine Or.inr ⟨w, h1, by rw [e3]; exact h2, (h3.mono hB).frame (fun j hj => e1 j (by omega)), h4.copy (fun _ _ => rfl) rfl (fun j _ hj => e1 j hj) (fun j hj => by
      show v2.2.2.1 (300 * (k + 1) + j) &&& 255 = v.2.2.1 (300 * (k + 1) + j) &&& 255
      rw [e2 j hj])⟩
/-- what holds between two calls -/
def INV (B : Nat) (v0 : V11) (v : V12) (K : KT) : Prop := R B v0.1 v.2.1 ∧ RT v0.1.2.2.2.2.2.2.2.1 v.2.1 v.2.2.1 ∧ KI B 0 K.1 v ∧ KI B 1 K.2.1 v ∧ KI B 2 K.2.2 v
theorem INV.q {B B2 : Nat} {v0 u : V11} {v v2 : V12} {K : KT} (h : INV B v0 v K) (hB : B ≤ B2) (h1 : u.1 = v0.1) (h2 : SA v v2) : INV B2 u v2 K := by
  obtain ⟨a1, a2, a3, a4, a5⟩ := h
  obtain ⟨s1, s2, s3⟩ := h2
  refine ⟨by rw [h1]; exact (a1.mono hB).frame (fun j hj => s1 j (by omega)), ?_, a3.frame hB (fun j hj => s1 _ (by omega)) (fun j hj => by rw [s2]) (by rw [s3]), a4.frame hB (fun j hj => s1 _ (by omega)) (fun j hj => by rw [s2]) (by rw [s3]), a5.frame hB (fun j hj => s1 _ (by omega)) (fun j hj => by rw [s2]) (by rw [s3])⟩
  rw [h1, s2]
  exact a2.copy (fun _ _ => rfl) rfl (fun j _ hj => s1 j (by omega)) (fun _ _ => rfl)
theorem INV.q0 {B B2 : Nat} {v0 u : V11} {v : V12} {K : KT} (h : INV B v0 v K) (hB : B ≤ B2) (h1 : u.1 = v0.1) (x : Int32) : INV B2 u (x, v.2) K := h.q hB h1 ⟨fun _ _ => rfl, rfl, rfl⟩
theorem INV.w {B B2 : Nat} {v0 u : V11} {v v2 : V12} {K : KT} (h : INV B v0 v K) (hB : B ≤ B2) (hW : WR B2 v u.1 v2) : INV B2 u v2 K := by
  obtain ⟨a1, a2, a3, a4, a5⟩ := h
  obtain ⟨s1, s2, s3, s4, s5⟩ := hW
  exact ⟨s1, s2, a3.frame hB (fun j hj => s3 _ (by omega)) (fun j hj => s4 _ (by omega)) (by rw [s5]), a4.frame hB (fun j hj => s3 _ (by omega)) (fun j hj => s4 _ (by omega)) (by rw [s5]), a5.frame hB (fun j hj => s3 _ (by omega)) (fun j hj => s4 _ (by omega)) (by rw [s5])⟩
end WRS
