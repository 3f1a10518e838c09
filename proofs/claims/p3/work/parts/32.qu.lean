section QU
/-- a queue of the class, a row of the reference -/
def RQ (a o mx : Nat) (q : V4) (F : Nat → Int32) : Prop := ∃ n h : Nat, n ≤ mx ∧ h < 512 ∧ q.2.2 = nI n ∧ q.2.1 = nI h ∧ F a = nI n ∧ ∀ k, k < n → F (o + k) = q.1 ((h + k) % 512) ∧ isb (F (o + k))
theorem RQ.frame {a o mx : Nat} {q : V4} {F F2 : Nat → Int32} (h : RQ a o mx q F) (e : ∀ j, j = a ∨ (o ≤ j ∧ j < o + mx) → F2 j = F j) : RQ a o mx q F2 := by
  obtain ⟨n, hd, h1, h2, h3, h4, h5, h6⟩ := h
  refine ⟨n, hd, h1, h2, h3, h4, by rw [e a (Or.inl rfl)]; exact h5, fun k hk => ?_⟩
  rw [e (o + k) (Or.inr ⟨by omega, by omega⟩)]
  exact h6 k hk
theorem and511 {n : Nat} (h : n < 2 ^ 31) : nI n &&& 511 = nI (n % 512) := pk_andN (by omega) 9 (by decide)
theorem x_append (g : Nat → Int32) {h n : Nat} (x : Int32) (hh : h < 512) (hn : n < 512) : f_X4_append (g, nI h, nI n) x = some (upd g ((h + n) % 512) x, nI h, nI (n + 1)) := by
  unfold f_X4_append
  dsimp only
  rw [if_neg (show ¬ (511 : Int32) < nI n from nI_nlt (a := 511) (by omega) (by decide)), nI_add, and511 (by omega), chk_nI (Nat.mod_lt _ (by decide)) (by decide), nI_clamp (by omega)]
  dsimp only [bnd]
  rw [nI_1]
theorem x_drop (g : Nat → Int32) {h n : Nat} (hh : h < 512) (h0 : 0 < n) (hn : n ≤ 512) : f_X4_dropFirst (g, nI h, nI n) = some (g h, (g, nI ((h + 1) % 512), nI (n - 1))) := by
  unfold f_X4_dropFirst
  dsimp only
  rw [if_pos (show (0 : Int32) < nI n from nI_lt (a := 0) h0 (by omega)), and511 (by omega), Nat.mod_eq_of_lt hh, chk_nI hh (by decide), nI_clamp (by omega)]
  dsimp only [bnd]
  rw [nI_1, and511 (by omega), show nI n - 1 = nI (n - 1) from pk_sub (b := 1) h0]
/-- a row of 'all' moves down by one place -/
theorem m_shift : ∀ (d fu k : Nat) (v : V12) (b : Int32), k + d = 400 → 1 ≤ k → d < fu → fb_X12_comesToHistory_16 fu v b (nI k) = fc_X12_comesToHistory_63 (v.1, upd (fun j => if 300 + k ≤ j ∧ j < 700 then v.2.1 (j + 1) else v.2.1 j) 300 (v.2.1 300 - 1), v.2.2) b := by
  intro d
  induction d with
  | zero =>
    intro fu k v b hk h1 hf
    obtain ⟨fu, rfl⟩ : ∃ m, fu = m + 1 := ⟨fu - 1, by omega⟩
    have hk : k = 400 := by omega
    subst hk
    have e : (fun j => if 300 + 400 ≤ j ∧ j < 700 then v.2.1 (j + 1) else v.2.1 j) = v.2.1 := by
      funext j
      rw [if_neg (by omega)]
    unfold fb_X12_comesToHistory_16 fl_X12_comesToHistory_16
    rw [if_pos (show (400 : Int32) ≤ nI 400 by decide), e]
    simp (disch := decide) only [lit_nI, chk_nI, nI_clamp, bnd_e]
  | succ d ih =>
    intro fu k v b hk h1 hf
    obtain ⟨fu, rfl⟩ : ∃ m, fu = m + 1 := ⟨fu - 1, by omega⟩
    unfold fb_X12_comesToHistory_16 fl_X12_comesToHistory_16
    rw [if_neg (show ¬ (400 : Int32) ≤ nI k from nI_ge (b := 400) (by omega) (by decide))]
    rw [show (301 : Int32) + nI k = nI (301 + k) from nI_add 301 k, show nI (301 + k) - 1 = nI (300 + k) from by rw [show 301 + k = (300 + k) + 1 by omega]; exact nI_pred _]
    rw [chk_nI (by omega) (by decide), chk_nI (by omega) (by decide), nI_clamp (by omega), nI_clamp (by omega)]
    dsimp only [bnd]
    rw [nI_1, ih fu (k + 1) _ b (by omega) (by omega) (by omega)]
    congr 3
    funext j
    dsimp only
    by_cases hj : j = 300
    · subst hj
      rw [upd_s, upd_s, upd_n (by omega)]
    · rw [upd_n hj, upd_n hj]
      by_cases h2 : j = 300 + k
      · subst h2
        rw [if_neg (by omega), if_pos (by omega), upd_s]
        rw [show 300 + k + 1 = 301 + k by omega]
      · by_cases h3 : 300 + (k + 1) ≤ j ∧ j < 700
        · rw [if_pos h3, if_pos (by omega), upd_n (by omega)]
        · rw [if_neg h3, if_neg (by omega), upd_n h2]
theorem m_hist63 (v : V12) (b : Int32) {n : Nat} (hn : v.2.1 300 = nI n) (h4 : n < 400) : fc_X12_comesToHistory_63 v b = some (v.1, upd (upd v.2.1 (301 + n) b) 300 (nI (n + 1)), v.2.2) := by
  unfold fc_X12_comesToHistory_63
  simp (disch := decide) only [lit_nI, chk_nI, nI_clamp, bnd_e]
  rw [hn, nI_add, chk_nI (by omega) (by decide), nI_clamp (by omega), upd_n (by omega), hn, nI_add]
theorem m_hist (v : V12) (b : Int32) : f_X12_comesToHistory v b = (if v.2.1 300 = 400 then fb_X12_comesToHistory_16 FU v b 1 else fc_X12_comesToHistory_63 v b) := by
  unfold f_X12_comesToHistory
  simp (disch := decide) only [lit_nI, chk_nI, nI_clamp]
  rfl
theorem hist_lt {q : V4} {v : V12} {b : Int32} (hR : RQ 300 301 400 q v.2.1) (hb : isb b) (hlt : q.2.2 < 400) : ∃ (q2 : V4) (F2 : Nat → Int32), f_X4_append q b = some q2 ∧ f_X12_comesToHistory v b = some (v.1, F2, v.2.2) ∧ RQ 300 301 400 q2 F2 ∧ ∀ j, j < 300 ∨ 700 < j → F2 j = v.2.1 j := by
  obtain ⟨n, h, h1, h2, h3, h4, h5, h6⟩ := hR
  obtain ⟨g, qh, qn⟩ := q
  dsimp only at h3 h4 h6 hlt
  subst h3 h4
  have hn : n < 400 := (nI_ltI (b := 400) (by omega) (by decide)).mp hlt
  refine ⟨_, upd (upd v.2.1 (301 + n) b) 300 (nI (n + 1)), x_append g b h2 (by omega), ?_, ?_, ?_⟩
  · rw [m_hist, if_neg (by rw [h5]; show ¬ nI n = nI 400; rw [nI_eq (by omega) (by decide)]; omega)]
    exact m_hist63 v b h5 hn
  · refine ⟨n + 1, h, by omega, h2, rfl, rfl, upd_s _ _ _, fun k hk => ?_⟩
    rw [upd_n (by omega)]
    dsimp only
    by_cases hk2 : k = n
    · subst hk2
      rw [upd_s, upd_s]
      exact ⟨rfl, hb⟩
    · rw [upd_n (by omega), upd_n (by omega)]
      exact h6 k (by omega)
  · intro j hj
    rw [upd_n (by omega), upd_n (by omega)]
theorem hist_eq {q : V4} {v : V12} {b : Int32} (hR : RQ 300 301 400 q v.2.1) (hb : isb b) (hlt : ¬ q.2.2 < 400) : ∃ (x : Int32) (q1 q2 : V4) (F2 : Nat → Int32), f_X4_dropFirst q = some (x, q1) ∧ f_X4_append q1 b = some q2 ∧ f_X12_comesToHistory v b = some (v.1, F2, v.2.2) ∧ RQ 300 301 400 q2 F2 ∧ ∀ j, j < 300 ∨ 700 < j → F2 j = v.2.1 j := by
  obtain ⟨n, h, h1, h2, h3, h4, h5, h6⟩ := hR
  obtain ⟨g, qh, qn⟩ := q
  dsimp only at h3 h4 h6 hlt
  subst h3 h4
  have hn : n = 400 := by
    rcases Nat.lt_or_ge n 400 with z | z
    · exact absurd (nI_lt (b := 400) z (by decide)) hlt
    · omega
  subst hn
  refine ⟨_, _, _, upd (upd (upd (fun j => if 300 + 1 ≤ j ∧ j < 700 then v.2.1 (j + 1) else v.2.1 j) 300 (v.2.1 300 - 1)) (301 + 399) b) 300 (nI (399 + 1)), x_drop g h2 (by decide) (by decide), x_append g b (Nat.mod_lt _ (by decide)) (by decide), ?_, ?_, ?_⟩
  · rw [m_hist, if_pos (by rw [h5]; rfl)]
    refine (m_shift 399 FU 1 v b (by decide) (by decide) (by decide)).trans ?_
    refine m_hist63 (n := 399) _ b ?_ (by decide)
    show v.2.1 300 - 1 = nI 399
    rw [h5]
    rfl
  · refine ⟨400, (h + 1) % 512, by omega, Nat.mod_lt _ (by decide), rfl, rfl, upd_s _ _ _, fun k hk => ?_⟩
    rw [upd_n (by omega)]
    dsimp only
    by_cases hk2 : k = 399
    · subst hk2
      rw [upd_s, upd_s]
      exact ⟨rfl, hb⟩
    · rw [upd_n (by omega), upd_n (by omega), upd_n (by omega), if_pos (by omega)]
      have h7 := h6 (k + 1) (by omega)
      have e1 : 301 + (k + 1) = 301 + k + 1 := by omega
      have e2 : (h + (k + 1)) % 512 = ((h + 1) % 512 + k) % 512 := by omega
      rw [e1, e2] at h7
      exact h7
  · intro j hj
    rw [upd_n (by omega), upd_n (by omega), upd_n (by omega), if_neg (by omega)]
end QU
