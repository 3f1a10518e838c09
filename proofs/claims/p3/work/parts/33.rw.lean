section RW
/-- the ROWS -/
def RR (r : V6) (F : Nat → Int32) : Prop := ∃ n : Nat, n ≤ 15 ∧ r.2.2 = nI n ∧ F 701 = nI n ∧ ∀ i, i < n → ∃ len S : Nat, len ≤ 15 ∧ S < 2 ^ len ∧ r.2.1 i = nI len ∧ F (702 + 16 * i) = nI len ∧ r.1 i = nI S ∧ ∀ k, k < len → F (703 + 16 * i + k) = nI (S / 2 ^ k % 2)
theorem RR.frame {r : V6} {F F2 : Nat → Int32} (h : RR r F) (e : ∀ j, 701 ≤ j → j < 942 → F2 j = F j) : RR r F2 := by
  obtain ⟨n, h1, h2, h3, h4⟩ := h
  refine ⟨n, h1, h2, by rw [e 701 (by omega) (by omega)]; exact h3, fun i hi => ?_⟩
  obtain ⟨len, S, g1, g2, g3, g4, g5, g6⟩ := h4 i hi
  refine ⟨len, S, g1, g2, g3, by rw [e _ (by omega) (by omega)]; exact g4, g5, fun k hk => ?_⟩
  rw [e _ (by omega) (by omega)]
  exact g6 k hk
theorem shl_ok : ∀ k : Nat, k < 32 → ((nI k &&& 31).toBitVec.smod 32).toNat = k := by decide +kernel
theorem or_nI {a b : Nat} : nI a ||| nI b = nI (a ||| b) := by
  apply Int32.toBitVec_inj.mp
  rw [Int32.toBitVec_or]
  show BitVec.ofNat 32 a ||| BitVec.ofNat 32 b = BitVec.ofNat 32 (a ||| b)
  apply BitVec.eq_of_toNat_eq
  rw [BitVec.toNat_or, BitVec.toNat_ofNat, BitVec.toNat_ofNat, BitVec.toNat_ofNat, Nat.or_mod_two_pow]
theorem or_add {S b len : Nat} (h : S < 2 ^ len) : S ||| b * 2 ^ len = S + b * 2 ^ len := by
  have h1 := Nat.two_pow_add_eq_or_of_lt h b
  rw [Nat.or_comm, Nat.mul_comm b, ← h1, Nat.add_comm]
theorem bit_low {S b len k : Nat} (hk : k < len) : (S + b * 2 ^ len) / 2 ^ k % 2 = S / 2 ^ k % 2 := by
  obtain ⟨d, rfl⟩ : ∃ d, len = k + 1 + d := ⟨len - k - 1, by omega⟩
  have e : b * 2 ^ (k + 1 + d) = 2 ^ k * (2 * (b * 2 ^ d)) := by
    rw [Nat.pow_add, Nat.pow_succ]
    simp only [Nat.mul_comm, Nat.mul_left_comm, Nat.mul_assoc]
  rw [e, Nat.add_mul_div_left _ _ (Nat.two_pow_pos k), Nat.add_mul_mod_self_left]
theorem bit_top {S b len : Nat} (h : S < 2 ^ len) : (S + b * 2 ^ len) / 2 ^ len = b := by
  rw [Nat.add_mul_div_right _ _ (Nat.two_pow_pos len), Nat.div_eq_of_lt h, Nat.zero_add]
theorem rows_rel {r : V6} {v : V12} {b : Int32} (hR : RR r v.2.1) (hb : isb b) (h0 : v.2.1 701 ≠ 0) : ∃ (r2 : V6) (F2 : Nat → Int32), f_X6_append r b = some r2 ∧ f_X12_comesToRow v b = some (v.1, F2, v.2.2) ∧ RR r2 F2 ∧ F2 701 = v.2.1 701 ∧ ∀ j, j < 702 ∨ 941 < j → F2 j = v.2.1 j := by
  obtain ⟨n, h1, h2, h3, h4⟩ := hR
  obtain ⟨sm, ln, rn⟩ := r
  dsimp only at h2 h4
  subst h2
  have hn0 : 0 < n := by
    rcases Nat.eq_zero_or_pos n with z | z
    · exact absurd (by rw [h3, z]; rfl) h0
    · exact z
  obtain ⟨len, S, g1, g2, g3, g4, g5, g6⟩ := h4 (n - 1) (by omega)
  obtain ⟨bb, hbb, rfl⟩ := isb_in hb
  have eX : nI n - 1 = nI (n - 1) := pk_sub (b := 1) hn0
  have eM : (702 : Int32) + (16 : Int32) * (nI n - 1) = nI (702 + 16 * (n - 1)) := by
    rw [eX]
    show nI 702 + nI 16 * nI (n - 1) = _
    rw [pk_mul, nI_add]
  by_cases hl : len = 15
  · subst hl
    refine ⟨(sm, ln, nI n), v.2.1, ?_, ?_, ⟨n, h1, rfl, h3, h4⟩, rfl, fun _ _ => rfl⟩
    · unfold f_X6_append
      dsimp only [bnd]
      rw [eX, if_neg (nI_pos (by omega)), if_neg (show ¬ (15 : Int32) ≤ nI (n - 1) from nI_ge (b := 15) (by omega) (by decide)), chk_nI (by omega) (by decide), nI_clamp (by omega), if_pos (show (15 : Int32) ≤ ln (n - 1) by rw [g3]; decide)]
    · unfold f_X12_comesToRow
      rw [show ((701 : Int32)).toNatClampNeg = 701 from rfl, h3]
      simp (disch := decide) only [chk_in (show vp_in (701 : Int32) 4725 by unfold vp_in; decide), bnd_e]
      rw [eM, chk_nI (by omega) (by decide), nI_clamp (by omega), if_pos (show (15 : Int32) ≤ v.2.1 (702 + 16 * (n - 1)) by rw [g4]; decide)]
  · have hlt : len < 15 := by omega
    refine ⟨(upd sm (n - 1) (nI (S + bb * 2 ^ len)), upd ln (n - 1) (nI (len + 1)), nI n), upd (upd v.2.1 (702 + 16 * (n - 1) + 1 + len) (nI bb)) (702 + 16 * (n - 1)) (nI (len + 1)), ?_, ?_, ?_, ?_, ?_⟩
    · unfold f_X6_append
      dsimp only [bnd]
      rw [eX, if_neg (nI_pos (by omega)), if_neg (show ¬ (15 : Int32) ≤ nI (n - 1) from nI_ge (b := 15) (by omega) (by decide))]
      simp only [chk_nI (show n - 1 < 15 by omega) (show 15 < 2 ^ 31 by decide), nI_clamp (show n - 1 < 2 ^ 31 by omega), g3, g5]
      rw [if_neg (show ¬ (15 : Int32) ≤ nI len from nI_ge (b := 15) (by omega) (by decide)), nI_1, pk_shlN _ len (shl_ok len (by omega)) ?_, or_nI, or_add g2]
      have h9 : 2 ^ len ≤ 2 ^ 15 := Nat.pow_le_pow_right (by decide) (by omega)
      have : bb * 2 ^ len ≤ 1 * 2 ^ 15 := Nat.mul_le_mul (by omega) h9
      omega
    · unfold f_X12_comesToRow
      rw [show ((701 : Int32)).toNatClampNeg = 701 from rfl, h3]
      simp (disch := decide) only [chk_in (show vp_in (701 : Int32) 4725 by unfold vp_in; decide), bnd_e]
      rw [eM]
      simp only [chk_nI (show 702 + 16 * (n - 1) < 4725 by omega) (show 4725 < 2 ^ 31 by decide), nI_clamp (show 702 + 16 * (n - 1) < 2 ^ 31 by omega), g4]
      rw [if_neg (show ¬ (15 : Int32) ≤ nI len from nI_ge (b := 15) (by omega) (by decide)), nI_1, nI_add, chk_nI (by omega) (by decide), nI_clamp (by omega), upd_n (by omega), g4, nI_1]
    · refine ⟨n, h1, rfl, ?_, fun i hi => ?_⟩
      · rw [upd_n (by omega), upd_n (by omega)]; exact h3
      · by_cases hi2 : i = n - 1
        · subst hi2
          refine ⟨len + 1, S + bb * 2 ^ len, by omega, ?_, upd_s _ _ _, upd_s _ _ _, upd_s _ _ _, fun k hk => ?_⟩
          · rw [Nat.pow_succ]
            have : bb * 2 ^ len ≤ 1 * 2 ^ len := Nat.mul_le_mul (by omega) (Nat.le_refl _)
            omega
          · rw [upd_n (by omega)]
            by_cases hk2 : k = len
            · subst hk2
              rw [show 703 + 16 * (n - 1) + k = 702 + 16 * (n - 1) + 1 + k by omega, upd_s, bit_top g2, Nat.mod_eq_of_lt hbb]
            · rw [upd_n (by omega), bit_low (by omega)]
              exact g6 k (by omega)
        · obtain ⟨len', S', z1, z2, z3, z4, z5, z6⟩ := h4 i hi
          refine ⟨len', S', z1, z2, ?_, ?_, ?_, fun k hk => ?_⟩
          · show upd ln (n - 1) _ i = _
            rw [upd_n hi2]; exact z3
          · rw [upd_n (by omega), upd_n (by omega)]; exact z4
          · show upd sm (n - 1) _ i = _
            rw [upd_n hi2]; exact z5
          · rw [upd_n (by omega), upd_n (by omega)]; exact z6 k hk
    · rw [upd_n (by omega), upd_n (by omega)]
    · intro j hj
      rw [upd_n (by omega), upd_n (by omega)]
end RW
