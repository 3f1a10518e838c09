section TE
/-- THE TEXT, the FAULT -/
def RT (t : V9) (F tx : Nat → Int32) : Prop := ∃ n : Nat, n ≤ 300 ∧ t.2.1 = nI n ∧ F 942 = nI n ∧ F 943 = t.2.2.1 ∧ F 944 = t.2.2.2 ∧ ∀ k, k < n → ∃ b : Nat, 0 < b ∧ b < 256 ∧ t.1 k = nI b ∧ tx k &&& 255 = nI b
theorem RT.frame {t : V9} {F F2 tx tx2 : Nat → Int32} (h : RT t F tx) (e : ∀ j, 942 ≤ j → j < 945 → F2 j = F j) (ex : ∀ j, j < 300 → tx2 j = tx j) : RT t F2 tx2 := by
  obtain ⟨n, h1, h2, h3, h4, h5, h6⟩ := h
  refine ⟨n, h1, h2, by rw [e 942 (by omega) (by omega)]; exact h3, by rw [e 943 (by omega) (by omega)]; exact h4, by rw [e 944 (by omega) (by omega)]; exact h5, fun k hk => ?_⟩
  obtain ⟨b, g1, g2, g3, g4⟩ := h6 k hk
  exact ⟨b, g1, g2, g3, by rw [ex k (by omega)]; exact g4⟩
theorem fst_ge (p : Nat → Bool) (d : Nat) : ∀ (m a : Nat), a + m ≤ d → a ≤ fstk p d a m ∧ fstk p d a m ≤ d ∧ ∀ j, a ≤ j → j < fstk p d a m → j < a + m → p j = false
  | 0, a, h => ⟨by show a ≤ d; omega, Nat.le_refl _, fun j h1 h2 h3 => absurd h3 (by omega)⟩
  | m + 1, a, h => by
    obtain ⟨h1, h2, h3⟩ := fst_ge p d m (a + 1) (by omega)
    unfold fstk
    by_cases hp : p a = true
    · rw [if_pos hp]
      exact ⟨Nat.le_refl _, by omega, fun j q1 q2 => absurd q2 (by omega)⟩
    · rw [if_neg hp]
      refine ⟨by omega, h2, fun j q1 q2 q3 => ?_⟩
      by_cases hj : j = a
      · subst hj; exact Bool.eq_false_iff.mpr hp
      · exact h3 j (by omega) q2 (by omega)
/-- how many bytes come -/
def nb (e : Int64) : Nat := fstk (fun k => decide (bt e k = 0)) 8 0 8
theorem nb_le (e : Int64) : nb e ≤ 8 := (fst_ge _ 8 8 0 (by omega)).2.1
theorem nb_pos (e : Int64) {j : Nat} (h : j < nb e) : 0 < bt e j := by
  have h1 := nb_le e
  have := (fst_ge (fun k => decide (bt e k = 0)) 8 8 0 (by omega)).2.2 j (by omega) h (by omega)
  have := of_decide_eq_false this
  omega
theorem x_cnt (t : V9) (e : Int64) : ∀ (d fu k : Nat), k + d = 8 → d < fu → fb_X9_append_2 fu t e (nI k) = fc_X9_append_22 t e (nI (fstk (fun k => decide (bt e k = 0)) 8 k d)) := by
  intro d
  induction d with
  | zero =>
    intro fu k hk hf
    obtain ⟨fu, rfl⟩ : ∃ m, fu = m + 1 := ⟨fu - 1, by omega⟩
    have hk : k = 8 := by omega
    subst hk
    show fl_X9_append_2 (fb_X9_append_2 fu) t e (nI 8) = _
    unfold fl_X9_append_2
    rw [if_pos (by decide)]
    rfl
  | succ d ih =>
    intro fu k hk hf
    obtain ⟨fu, rfl⟩ : ∃ m, fu = m + 1 := ⟨fu - 1, by omega⟩
    have ih := ih fu (k + 1) (by omega) (by omega)
    show fl_X9_append_2 (fb_X9_append_2 fu) t e (nI k) = _
    unfold fl_X9_append_2 fstk
    rw [if_neg (show ¬ (8 : Int32) ≤ nI k from nI_ge (b := 8) (by omega) (by decide)), x_byte e (by omega), bnd1_s]
    by_cases hb : bt e k = 0
    · rw [if_pos (by rw [hb]; rfl), if_pos (decide_eq_true hb)]
    · rw [if_neg (show ¬ nI (bt e k) = 0 from nI_ne0 (by omega) (Nat.lt_trans (bt_lt e k) (by decide))), if_neg (by rw [decide_eq_true_eq]; exact hb), bnd_e, nI_1]
      exact ih
theorem m_cnt (v : V12) (e : Int64) : ∀ (d fu k : Nat), k + d = 8 → d < fu → fb_X12_tell_7 fu v e (nI k) = fc_X12_tell_37 v e (nI (fstk (fun k => decide (bt e k = 0)) 8 k d)) := by
  intro d
  induction d with
  | zero =>
    intro fu k hk hf
    obtain ⟨fu, rfl⟩ : ∃ m, fu = m + 1 := ⟨fu - 1, by omega⟩
    have hk : k = 8 := by omega
    subst hk
    show fl_X12_tell_7 (fb_X12_tell_7 fu) v e (nI 8) = _
    unfold fl_X12_tell_7
    rw [if_pos (by decide)]
    rfl
  | succ d ih =>
    intro fu k hk hf
    obtain ⟨fu, rfl⟩ : ∃ m, fu = m + 1 := ⟨fu - 1, by omega⟩
    have ih := ih fu (k + 1) (by omega) (by omega)
    show fl_X12_tell_7 (fb_X12_tell_7 fu) v e (nI k) = _
    unfold fl_X12_tell_7 fstk
    rw [if_neg (show ¬ (8 : Int32) ≤ nI k from nI_ge (b := 8) (by omega) (by decide))]
    by_cases hb : bt e k = 0
    · rw [if_pos ((m_byte e (by omega)).mpr hb), if_pos (decide_eq_true hb)]
    · rw [if_neg (fun q => hb ((m_byte e (by omega)).mp q)), if_neg (by rw [decide_eq_true_eq]; exact hb), bnd_e, nI_1]
      exact ih
theorem tell_loop (e : Int64) {n0 m : Nat} (hn : n0 + m ≤ 300) (hm : m ≤ 8) (hpos : ∀ j, j < m → 0 < bt e j) (r1 r2 : Int32) : ∀ (d f1 f2 i : Nat) (g : Nat → Int32) (v : V12), i + d = m → d < f1 → d < f2 → v.2.1 942 = nI (n0 + i) → (∀ k, k < n0 + i → ∃ b : Nat, 0 < b ∧ b < 256 ∧ g k = nI b ∧ v.2.2.1 k &&& 255 = nI b) → ∃ (g2 F2 tx2 : Nat → Int32), fb_X9_append_46 f1 (g, nI n0, r1, r2) e (nI m) (nI i) = some (nI (n0 + m), (g2, nI (n0 + m), r1, r2)) ∧ fb_X12_tell_58 f2 v e (nI m) (nI i) = some (nI (n0 + m), (v.1, F2, tx2, v.2.2.2)) ∧ F2 942 = nI (n0 + m) ∧ (∀ j, j ≠ 942 → F2 j = v.2.1 j) ∧ (∀ j, 300 ≤ j → tx2 j = v.2.2.1 j) ∧ ∀ k, k < n0 + m → ∃ b : Nat, 0 < b ∧ b < 256 ∧ g2 k = nI b ∧ tx2 k &&& 255 = nI b := by
  intro d
  induction d with
  | zero =>
    intro f1 f2 i g v hi hf1 hf2 h942 hk
    obtain ⟨f1, rfl⟩ : ∃ m, f1 = m + 1 := ⟨f1 - 1, by omega⟩
    obtain ⟨f2, rfl⟩ : ∃ m, f2 = m + 1 := ⟨f2 - 1, by omega⟩
    have hi : i = m := by omega
    subst hi
    refine ⟨g, v.2.1, v.2.2.1, ?_, ?_, h942, fun _ _ => rfl, fun _ _ => rfl, hk⟩
    · show fl_X9_append_46 (fb_X9_append_46 f1) (g, nI n0, r1, r2) e (nI i) (nI i) = _
      unfold fl_X9_append_46
      rw [if_pos (Int32.le_refl _), bnd_e, nI_add]
    · show fl_X12_tell_58 (fb_X12_tell_58 f2) v e (nI i) (nI i) = _
      unfold fl_X12_tell_58
      rw [if_pos (Int32.le_refl _), chk_in (by unfold vp_in; decide), show ((942 : Int32)).toNatClampNeg = 942 from rfl, h942]
  | succ d ih =>
    intro f1 f2 i g v hi hf1 hf2 h942 hk
    obtain ⟨f1, rfl⟩ : ∃ m, f1 = m + 1 := ⟨f1 - 1, by omega⟩
    obtain ⟨f2, rfl⟩ : ∃ m, f2 = m + 1 := ⟨f2 - 1, by omega⟩
    obtain ⟨g2, F2, tx2, a1, a2, a3, a4, a5, a6⟩ := ih f1 f2 (i + 1) (upd g (n0 + i) (nI (bt e i))) (v.1, upd v.2.1 942 (nI (n0 + i + 1)), upd v.2.2.1 (n0 + i) (vp_nar .byte (ji2b (Int64.toInt32 (jlshr e ((56 : Int32) - (8 : Int32) * nI i))))), v.2.2.2) (by omega) (by omega) (by omega) (upd_s v.2.1 942 (nI (n0 + i + 1))) (fun k hk2 => by
      show ∃ b : Nat, 0 < b ∧ b < 256 ∧ upd g (n0 + i) (nI (bt e i)) k = nI b ∧ upd v.2.2.1 (n0 + i) _ k &&& 255 = nI b
      by_cases hk3 : k = n0 + i
      · subst hk3
        exact ⟨bt e i, hpos i (by omega), bt_lt e i, upd_s _ _ _, by rw [upd_s]; exact m_store e (by omega)⟩
      · rw [upd_n hk3, upd_n hk3]
        exact hk k (by omega))
    refine ⟨g2, F2, tx2, ?_, ?_, a3, fun j hj => ?_, fun j hj => ?_, a6⟩
    · show fl_X9_append_46 (fb_X9_append_46 f1) (g, nI n0, r1, r2) e (nI m) (nI i) = _
      unfold fl_X9_append_46
      dsimp only
      rw [if_neg (nI_ge (by omega) (by omega)), x_byte e (by omega), bnd1_s, nI_add, chk_nI (by omega) (by decide), nI_clamp (by omega), bnd_e, bnd_e, nI_1]
      exact a1
    · show fl_X12_tell_58 (fb_X12_tell_58 f2) v e (nI m) (nI i) = _
      unfold fl_X12_tell_58
      rw [if_neg (nI_ge (by omega) (by omega)), show ((942 : Int32)).toNatClampNeg = 942 from rfl, h942, chk_in (by unfold vp_in; decide), chk_nI (by omega) (by decide), nI_clamp (by omega), bnd_e, chk_in (by unfold vp_in; decide), chk_in (by unfold vp_in; decide), bnd_e, bnd_e, nI_1, nI_1]
      exact a2
    · rw [a4 j hj]
      show upd v.2.1 942 _ j = _
      rw [upd_n hj]
    · rw [a5 j hj]
      show upd v.2.2.1 (n0 + i) _ j = _
      rw [upd_n (by omega)]
theorem tell_rel {t : V9} {v : V12} (e : Int64) (hR : RT t v.2.1 v.2.2.1) : ∃ (r : Int32) (t2 : V9) (F2 tx2 : Nat → Int32), f_X9_append t e = some (r, t2) ∧ f_X12_tell v e = some (r, (0, F2, tx2, v.2.2.2)) ∧ RT t2 F2 tx2 ∧ (∀ j, j ≠ 942 → F2 j = v.2.1 j) ∧ ∀ j, 300 ≤ j → tx2 j = v.2.2.1 j := by
  obtain ⟨n, h1, h2, h3, h4, h5, h6⟩ := hR
  obtain ⟨g, tn, r1, r2⟩ := t
  dsimp only at h2 h4 h5 h6
  subst h2
  have hx := x_cnt (g, nI n, r1, r2) e 8 FU 0 (by omega) (by decide)
  have hm := m_cnt (0, v.2) e 8 FU 0 (by omega) (by decide)
  have hX : f_X9_append (g, nI n, r1, r2) e = fc_X9_append_22 (g, nI n, r1, r2) e (nI (nb e)) := hx
  have hM : f_X12_tell v e = fc_X12_tell_37 (0, v.2) e (nI (nb e)) := hm
  have hnb := nb_le e
  rw [hX, hM]
  unfold fc_X9_append_22 fc_X12_tell_37
  dsimp only
  rw [if_neg (nI_pos (by omega)), chk_in (by unfold vp_in; decide), show ((942 : Int32)).toNatClampNeg = 942 from rfl, h3, nI_add]
  by_cases hle : n + nb e ≤ 300
  · rw [if_pos (show nI (n + nb e) ≤ (300 : Int32) from nI_le (b := 300) hle (by decide)), if_pos (show nI (n + nb e) ≤ (300 : Int32) from nI_le (b := 300) hle (by decide))]
    obtain ⟨g2, F2, tx2, a1, a2, a3, a4, a5, a6⟩ := tell_loop e hle hnb (fun j hj => nb_pos e hj) r1 r2 (nb e) FU FU 0 g (0, v.2) (by omega) (by show nb e < 8589934592; omega) (by show nb e < 8589934592; omega) h3 h6
    exact ⟨_, _, F2, tx2, a1, a2, ⟨n + nb e, hle, rfl, a3, by rw [a4 943 (by decide)]; exact h4, by rw [a4 944 (by decide)]; exact h5, a6⟩, a4, a5⟩
  · rw [if_neg (show ¬ nI (n + nb e) ≤ (300 : Int32) from nI_ge (a := 300) (by omega) (by omega)), if_neg (show ¬ nI (n + nb e) ≤ (300 : Int32) from nI_ge (a := 300) (by omega) (by omega))]
    exact ⟨-1, _, v.2.1, v.2.2.1, rfl, rfl, ⟨n, h1, rfl, h3, h4, h5, h6⟩, fun _ _ => rfl, fun _ _ => rfl⟩
end TE
