section LDS
/-- the latest n bits, loaded -/
def LD (u : V0) (F : Nat → Int32) (H n : Nat) : Prop := u.2.2.1 = nI n ∧ 1 ≤ n ∧ n ≤ H ∧ H ≤ 400 ∧ F 300 = nI H ∧ ∀ k, k < n → u.1 k = F (301 + H - n + k) ∧ isb (F (301 + H - n + k))
theorem q_at {q : V4} {F : Nat → Int32} {H h o : Nat} (h1 : H ≤ 512) (h2 : h < 512) (h3 : q.2.2 = nI H) (h4 : q.2.1 = nI h) (h6 : ∀ k, k < H → F (o + k) = q.1 ((h + k) % 512) ∧ isb (F (o + k))) {k : Nat} (hk : k < H) : f_X4_bitAt q (nI k) = some (F (o + k)) := by
  unfold f_X4_bitAt
  rw [h3, h4, if_neg (nI_pos (by omega)), if_pos (nI_lt hk (by omega)), nI_add, and511 (by omega), chk_nI (Nat.mod_lt _ (by decide)) (by decide), nI_clamp (by omega), (h6 k hk).1]
theorem x_load {q : V4} {F : Nat → Int32} {H n : Nat} (hn : n ≤ H) (hH : H ≤ 400) (hat : ∀ k, k < H → f_X4_bitAt q (nI k) = some (F (301 + k))) : ∀ (d fu k : Nat) (u : V0), u.2.2.1 = nI n → k + d = n → d < fu → ∃ T : Nat → Int32, fb_X0_load_28 q fu u (nI (H - n)) (nI k) = some (T, u.2) ∧ ∀ j, j < n → T j = if j < k then u.1 j else F (301 + H - n + j) := by
  intro d
  induction d with
  | zero =>
    intro fu k u hu hk hf
    obtain ⟨fu, rfl⟩ : ∃ m, fu = m + 1 := ⟨fu - 1, by omega⟩
    refine ⟨u.1, ?_, fun j hj => by rw [if_pos (by omega)]⟩
    show fl_X0_load_28 q (fb_X0_load_28 q fu) _ _ _ = _
    unfold fl_X0_load_28
    rw [hu, if_pos (nI_le (by omega) (by omega))]
  | succ d ih =>
    intro fu k u hu hk hf
    obtain ⟨fu, rfl⟩ : ∃ m, fu = m + 1 := ⟨fu - 1, by omega⟩
    obtain ⟨T, t1, t2⟩ := ih fu (k + 1) (upd u.1 k (F (301 + H - n + k)), u.2) hu (by omega) (by omega)
    refine ⟨T, ?_, fun j hj => ?_⟩
    · refine Eq.trans ?_ t1
      show fl_X0_load_28 q (fb_X0_load_28 q fu) _ _ _ = _
      unfold fl_X0_load_28
      rw [hu, if_neg (nI_ge (by omega) (by omega)), if_neg (show ¬ (400 : Int32) ≤ nI k from nI_ge (b := 400) (by omega) (by decide)), nI_add, hat _ (by omega), bnd1_s, chk_nI (by omega) (by decide), bnd_e, bnd_e, nI_1, nI_clamp (by omega), show 301 + (H - n + k) = 301 + H - n + k by omega]
    · rw [t2 j hj]
      by_cases e : j = k
      · subst e
        rw [if_pos (by omega), if_neg (by omega)]
        exact upd_s _ _ _
      · by_cases h : j < k
        · rw [if_pos (by omega), if_pos h]
          exact upd_n e
        · rw [if_neg (by omega), if_neg h]
theorem there_rel {v0 : V11} {v : V12} (hQ : RQ 300 301 400 v0.1.2.2.2.2.2.1 v.2.1) (p : Int32) {m : Nat} (hm : m = 1 ∨ m = 2) : (f_X11_loadLatest v0 p (nI m) = some (0, v0) ∧ f_X12_isThere v p (nI m) = some 0) ∨ ∃ (n H : Nat) (u : V0), p = nI n ∧ m ≤ n ∧ LD u v.2.1 H n ∧ f_X11_loadLatest v0 p (nI m) = some (1, (v0.1, v0.2.1, v0.2.2.1, v0.2.2.2.1, u, v0.2.2.2.2.2)) ∧ f_X12_isThere v p (nI m) = some 1 := by
  obtain ⟨H, h, h1, h2, h3, h4, h5, h6⟩ := hQ
  unfold f_X11_loadLatest f_X12_isThere f_X12_in
  rw [chk_in (show vp_in (300 : Int32) 4725 by unfold vp_in; decide), show ((300 : Int32)).toNatClampNeg = 300 from rfl, h5, h3]
  by_cases c1 : p < nI m
  · exact Or.inl ⟨by rw [if_pos c1], by rw [if_pos c1, bnd1_s, chkbo0]⟩
  · rw [if_neg c1, if_neg c1]
    have h0 : ¬ p < 0 := fun e => c1 (by
      rw [Int32.lt_iff_toInt_lt] at e ⊢
      rw [nI_toInt (by omega)]
      rw [show (0 : Int32).toInt = 0 from rfl] at e
      omega)
    obtain ⟨n, hn, e⟩ := nI_of h0
    subst e
    by_cases c2 : n ≤ H
    · right
      have hmn : m ≤ n := Nat.le_of_not_lt (fun e => c1 (nI_lt e (by omega)))
      obtain ⟨T, t1, t2⟩ := x_load (q := v0.1.2.2.2.2.2.1) (F := v.2.1) c2 h1 (fun k hk => q_at (by omega) h2 h3 h4 h6 hk) n FU 0 (v0.2.2.2.2.1.1, v0.2.2.2.2.1.2.1, nI n, v0.2.2.2.2.1.2.2.2) rfl (by omega) (by show n < 8589934592; omega)
      refine ⟨n, H, (T, v0.2.2.2.2.1.2.1, nI n, v0.2.2.2.2.1.2.2.2), rfl, hmn, ⟨rfl, by omega, c2, h1, h5, fun k hk => ⟨?_, ?_⟩⟩, ?_, ?_⟩
      · show T k = _
        rw [t2 k hk, if_neg (by omega)]
      · have := (h6 (H - n + k) (by omega)).2
        rw [show 301 + (H - n + k) = 301 + H - n + k by omega] at this
        exact this
      · rw [if_pos (nI_le c2 (by omega))]
        unfold f_X0_load jmin jmax
        rw [if_neg (show ¬ (400 : Int32) < nI n from nI_nlt (a := 400) (by omega) (by decide)), bnd_e]
        have e0 : (if (0 : Int32) < nI n then nI n else 0) = nI n := by
          rw [if_pos (show (0 : Int32) < nI n from nI_lt (a := 0) (by omega) hn)]
        rw [show (if (0 : Int32) < nI n then nI n else 0) = nI n from e0, bnd_e, bnd_e, h3, pk_sub c2, show fb_X0_load_28 v0.1.2.2.2.2.2.1 FU (v0.2.2.2.2.1.1, v0.2.2.2.2.1.2.1, nI n, v0.2.2.2.2.1.2.2.2) (nI (H - n)) (0 : Int32) = _ from t1, bnd1_s]
      · rw [if_neg (nI_nlt c2 (by omega)), bnd1_s, chkbo1]
    · left
      rw [if_neg (nI_ge (by omega) hn), if_pos (nI_lt (by omega) hn), bnd1_s, chkbo0]
      exact ⟨rfl, rfl⟩
theorem m_late {v : V12} {H n k : Nat} (hH : H ≤ 400) (hn : n ≤ H) (h3 : v.2.1 300 = nI H) (hk : k < n) : f_X12_late v (nI n) (nI k) = some (v.2.1 (301 + H - n + k)) := by
  unfold f_X12_late
  rw [chk_in (show vp_in (300 : Int32) 4725 by unfold vp_in; decide), show ((300 : Int32)).toNatClampNeg = 300 from rfl, h3, show (301 : Int32) + nI H = nI (301 + H) from nI_add 301 H, pk_sub (by omega), nI_add, chk_nI (by omega) (by decide), nI_clamp (by omega)]
end LDS
