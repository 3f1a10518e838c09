section IM
theorem m_image {v : V12} {k : Nat} (hk : k < 3) : ∃ F2 t2 : Nat → Int32, f_X12_image v (nI k) = some (1, (0, F2, t2, upd v.2.2.2.1 k 1, v.2.2.2.2)) ∧ (∀ j, j < 945 → F2 (945 * (k + 1) + j) = v.2.1 j) ∧ (∀ j, j < 945 * (k + 1) ∨ 945 * (k + 1) + 945 ≤ j → F2 j = v.2.1 j) ∧ (∀ j, j < 300 → t2 (300 * (k + 1) + j) &&& 255 = v.2.2.1 j &&& 255) ∧ ∀ j, j < 300 * (k + 1) ∨ 300 * (k + 1) + 300 ≤ j → t2 j = v.2.2.1 j := by
  obtain ⟨F2, t2, a1, a2, a3, a4, a5⟩ := m_text (a := 0) (b := k + 1) (by decide) (by omega) (by omega) (0, v.2)
  refine ⟨F2, t2, ?_, fun j hj => ?_, a3, fun j hj => ?_, a5⟩
  · unfold f_X12_image
    rw [show f_X12_in (nI k) 0 2 = some (if (decide (0 ≤ k) && decide (k ≤ 2)) = true then 1 else 0) from m_in2 (a := 0) (b := 2) (by decide) (by decide) (by omega), if_pos (in_dec (by omega)), bnd1_s, if_neg (by decide), nI_1, show f_X12_copiesText ((0 : Int32), v.2) (0 : Int32) (nI (k + 1)) = _ from a1, bnd1_s, chk_nI hk (by decide), bnd_e, nI_clamp (by omega)]
    rfl
  · have := a2 j hj
    rw [Nat.mul_zero, Nat.zero_add] at this
    exact this
  · have := a4 j hj
    rw [Nat.mul_zero, Nat.zero_add] at this
    exact this
theorem x_copy {B : Nat} {w : V10} {F tx : Nat → Int32} (w0 : V10) (hR : R B w F) (hT : RT w.2.2.2.2.2.2.2.1 F tx) : ∃ u : V10, f_X10_copyFrom w0 w = some u ∧ R B u F ∧ RT u.2.2.2.2.2.2.2.1 F tx := by
  obtain ⟨u, u1, u2, u3, u4⟩ := copy_rel w0 hR
  exact ⟨u, u1, u2, hT.copy u3 u4 (fun _ _ _ => rfl) (fun _ _ => rfl)⟩
theorem INV.img {B B2 k : Nat} {v0 : V11} {v : V12} {K : KT} (h : INV B v0 v K) (hB : B ≤ B2) (hk : k < 3) {u : V10} (hR : R B u v.2.1) (hT : RT u.2.2.2.2.2.2.2.1 v.2.1 v.2.2.1) {F2 t2 : Nat → Int32} (a2 : ∀ j, j < 945 → F2 (945 * (k + 1) + j) = v.2.1 j) (a3 : ∀ j, j < 945 * (k + 1) ∨ 945 * (k + 1) + 945 ≤ j → F2 j = v.2.1 j) (a4 : ∀ j, j < 300 → t2 (300 * (k + 1) + j) &&& 255 = v.2.2.1 j &&& 255) (a5 : ∀ j, j < 300 * (k + 1) ∨ 300 * (k + 1) + 300 ≤ j → t2 j = v.2.2.1 j) : KI B2 k (some u) (0, F2, t2, upd v.2.2.2.1 k 1, v.2.2.2.2) ∧ (∀ (m : Nat) (o : Option V10), m < 3 → m ≠ k → KI B m o v → KI B2 m o (0, F2, t2, upd v.2.2.2.1 k 1, v.2.2.2.2)) ∧ R B2 v0.1 F2 ∧ RT v0.1.2.2.2.2.2.2.2.1 F2 t2 := by
  obtain ⟨b1, b2, -⟩ := h
  refine ⟨Or.inr ⟨u, rfl, ?_, (hR.mono hB).frame (fun j hj => a2 j (by omega)), hT.copy (fun _ _ => rfl) rfl (fun j _ hj => a2 j hj) a4⟩, fun m o hm hne hK => ?_, (b1.mono hB).frame (fun j hj => a3 j (by omega)), b2.copy (fun _ _ => rfl) rfl (fun j _ hj => a3 j (by omega)) (fun j hj => by rw [a5 j (by omega)])⟩
  · show upd v.2.2.2.1 k 1 k ≠ 0
    rw [upd_s]; decide
  · refine hK.frame hB (fun j hj => a3 _ ?_) (fun j hj => a5 _ ?_) (upd_n hne)
    · rcases Nat.lt_or_gt_of_ne hne with q | q
      · left
        have : 945 * (m + 1) ≤ 945 * k := Nat.mul_le_mul_left _ (by omega)
        omega
      · right
        have : 945 * (k + 1) ≤ 945 * m := Nat.mul_le_mul_left _ (by omega)
        omega
    · rcases Nat.lt_or_gt_of_ne hne with q | q
      · left
        have : 300 * (m + 1) ≤ 300 * k := Nat.mul_le_mul_left _ (by omega)
        omega
      · right
        have : 300 * (k + 1) ≤ 300 * m := Nat.mul_le_mul_left _ (by omega)
        omega
theorem out3 {p : Int32} (h0 : p ≠ 0) (h1 : p ≠ 1) (h2 : p ≠ 2) : f_X12_in p 0 2 = some 0 ∧ (p < 0 ∨ ¬ p < 3) := by
  rw [show f_X12_in p 0 2 = f_X12_in p 0 (nI 3 - 1) from rfl]
  rcases in0 p (n := 3) (by decide) with ⟨k, k1, k2, k3⟩ | ⟨k1, k2⟩
  · have : k = 0 ∨ k = 1 ∨ k = 2 := by omega
    rcases this with e | e | e
    · rw [e] at k2; exact absurd k2 h0
    · rw [e] at k2; exact absurd k2 h1
    · rw [e] at k2; exact absurd k2 h2
  · refine ⟨k2, ?_⟩
    rcases k1 with k1 | ⟨k, k3, k4, k5⟩
    · exact Or.inl k1
    · rw [k5]; exact Or.inr (nI_nlt (b := 3) k3 k4)
theorem m_image0 {v : V12} {p : Int32} (h0 : p ≠ 0) (h1 : p ≠ 1) (h2 : p ≠ 2) : f_X12_image v p = some (0, (0, v.2)) := by
  unfold f_X12_image
  rw [(out3 h0 h1 h2).1, bnd1_s, if_pos rfl]
theorem x_image0 {v0 : V11} {p : Int32} (h0 : p ≠ 0) (h1 : p ≠ 1) (h2 : p ≠ 2) : f_X11_image v0 p = some 0 := by
  unfold f_X11_image
  rcases (out3 h0 h1 h2).2 with q | q
  · rw [if_pos q]
  · by_cases q0 : p < 0
    · rw [if_pos q0]
    · rw [if_neg q0, if_neg q]
theorem m_again0 {v : V12} {p : Int32} (h0 : p ≠ 0) (h1 : p ≠ 1) (h2 : p ≠ 2) : f_X12_again v p = some (0, (0, v.2)) := by
  unfold f_X12_again
  rw [(out3 h0 h1 h2).1, bnd1_s, if_pos rfl]
theorem m_againN {v : V12} {k : Nat} (hk : k < 3) (h : v.2.2.2.1 k = 0) : f_X12_again v (nI k) = some (0, (0, v.2)) := by
  unfold f_X12_again
  rw [show f_X12_in (nI k) 0 2 = some (if (decide (0 ≤ k) && decide (k ≤ 2)) = true then 1 else 0) from m_in2 (a := 0) (b := 2) (by decide) (by decide) (by omega), if_pos (in_dec (by omega)), bnd1_s, if_neg (by decide), chk_nI hk (by decide), nI_clamp (by omega), if_pos h]
theorem w_again {B B2 k : Nat} {v0 : V11} {v : V12} {w : V10} (hk : k < 3) (hB : B ≤ B2) (hs : v.2.2.2.1 k ≠ 0) (hR : R B w (fun j => v.2.1 (945 * (k + 1) + j))) (hT : RT w.2.2.2.2.2.2.2.1 (fun j => v.2.1 (945 * (k + 1) + j)) (fun j => v.2.2.1 (300 * (k + 1) + j))) : ∃ (u : V10) (v2 : V12), f_X10_copyFrom v0.1 w = some u ∧ f_X12_again v (nI k) = some (1, v2) ∧ WR B2 v u v2 := by
  obtain ⟨u, u1, u2, u3⟩ := x_copy v0.1 hR hT
  obtain ⟨F2, t2, a1, a2, a3, a4, a5⟩ := m_text (a := k + 1) (b := 0) (by omega) (by decide) (by omega) (0, v.2)
  have b2 : ∀ j, j < 945 → F2 j = v.2.1 (945 * (k + 1) + j) := fun j hj => by
    have := a2 j hj
    rw [Nat.mul_zero, Nat.zero_add] at this
    exact this
  have b4 : ∀ j, j < 300 → t2 j &&& 255 = v.2.2.1 (300 * (k + 1) + j) &&& 255 := fun j hj => by
    have := a4 j hj
    rw [Nat.mul_zero, Nat.zero_add] at this
    exact this
  refine ⟨u, (0, F2, t2, v.2.2.2), u1, ?_, (u2.mono hB).frame (fun j hj => b2 j (by omega)), u3.copy (fun _ _ => rfl) rfl (fun j _ hj => b2 j hj) b4, fun j hj => a3 j (by omega), fun j hj => a5 j (by omega), rfl⟩
  unfold f_X12_again
  rw [show f_X12_in (nI k) 0 2 = some (if (decide (0 ≤ k) && decide (k ≤ 2)) = true then 1 else 0) from m_in2 (a := 0) (b := 2) (by decide) (by decide) (by omega), if_pos (in_dec (by omega)), bnd1_s, if_neg (by decide), chk_nI hk (by decide), nI_clamp (by omega), if_neg hs, nI_1, show f_X12_copiesText ((0 : Int32), v.2) (nI (k + 1)) (0 : Int32) = _ from a1, bnd1_s]
end IM
