section WO
/-- letters as a number, base 256 -/
def pkN (g : Nat → Nat) (b : Nat) : Nat → Nat
  | 0 => 0
  | k + 1 => pkN g b k * 256 + g (b + k)
theorem pkN_lt (g : Nat → Nat) (b : Nat) : ∀ k, (∀ i, i < k → g (b + i) < 256) → pkN g b k < 256 ^ k
  | 0, _ => by show 0 < 256 ^ 0; decide
  | k + 1, h => by
    have ih := pkN_lt g b k (fun i hi => h i (by omega))
    have hk := h k (by omega)
    show pkN g b k * 256 + g (b + k) < _
    rw [Nat.pow_succ]
    omega
theorem pkN_inj (g h : Nat → Nat) (a b : Nat) : ∀ k m, (∀ i, i < k → 0 < g (a + i) ∧ g (a + i) < 256) → (∀ i, i < m → 0 < h (b + i) ∧ h (b + i) < 256) → pkN g a k = pkN h b m → k = m ∧ ∀ i, i < k → g (a + i) = h (b + i)
  | 0, 0, _, _, _ => ⟨rfl, fun i hi => absurd hi (by omega)⟩
  | 0, m + 1, _, h2, e => by
    have e : 0 = pkN h b m * 256 + h (b + m) := e
    have := h2 m (by omega)
    omega
  | k + 1, 0, h1, _, e => by
    have e : pkN g a k * 256 + g (a + k) = 0 := e
    have := h1 k (by omega)
    omega
  | k + 1, m + 1, h1, h2, e => by
    have e : pkN g a k * 256 + g (a + k) = pkN h b m * 256 + h (b + m) := e
    have g1 := h1 k (by omega)
    have g2 := h2 m (by omega)
    obtain ⟨i1, i2⟩ := pkN_inj g h a b k m (fun i hi => h1 i (by omega)) (fun i hi => h2 i (by omega)) (by omega)
    subst i1
    refine ⟨rfl, fun i hi => ?_⟩
    by_cases hk : i = k
    · subst hk; omega
    · exact i2 i (by omega)
theorem pkN_eq (g h : Nat → Nat) (a b : Nat) : ∀ k, (∀ i, i < k → g (a + i) = h (b + i)) → pkN g a k = pkN h b k
  | 0, _ => rfl
  | k + 1, e => by
    show pkN g a k * 256 + g (a + k) = pkN h b k * 256 + h (b + k)
    rw [pkN_eq g h a b k (fun i hi => e i (by omega)), e k (by omega)]
theorem wd_N (g : Nat → Nat) (b : Nat) : ∀ k, k ≤ 8 → (∀ i, i < k → g (b + i) < 256) → (wd g b k).toBitVec.toNat = pkN g b k
  | 0, _, _ => rfl
  | k + 1, hk, h => by
    have ih := wd_N g b k (by omega) (fun i hi => h i (by omega))
    have hl := pkN_lt g b k (fun i hi => h i (by omega))
    have hc := h k (by omega)
    have hp : 256 ^ k ≤ 256 ^ 7 := Nat.pow_le_pow_right (by decide) (by omega)
    have hc2 : (Int32.toInt64 (nI (g (b + k)))).toBitVec.toNat = g (b + k) := by
      rw [nI_l (by omega)]
      show (g (b + k)) % 2 ^ 64 = _
      exact Nat.mod_eq_of_lt (by omega)
    have hs : (jlshl (wd g b k) 8).toBitVec.toNat = pkN g b k * 256 := by
      show ((wd g b k).toBitVec <<< (8 : Nat)).toNat = _
      rw [BitVec.toNat_shiftLeft, ih, Nat.shiftLeft_eq]
      exact Nat.mod_eq_of_lt (by omega)
    show ((jlshl (wd g b k) 8).toBitVec ||| (Int32.toInt64 (nI (g (b + k)))).toBitVec).toNat = pkN g b k * 256 + g (b + k)
    rw [BitVec.toNat_or, hs, hc2]
    have := Nat.shiftLeft_add_eq_or_of_lt (a := pkN g b k) (show g (b + k) < 2 ^ 8 by omega)
    rw [Nat.shiftLeft_eq] at this
    exact this.symm
def cN (w k : Nat) : Nat := (sch w k).toNatClampNeg
/-- the ten words as numbers -/
def Cn (w : Nat) : Nat := [109299962372965, 7106407, 131294707347319, 495873782388, 422726034283, 7304564, 1651073395, 495874302827, 1936024932, 495875089259].getD w 0
theorem Cn_ev : ∀ w, w < 10 → lenS.getD w 0 ≤ 8 ∧ 0 < Cn w ∧ pkN (cN w) 0 (lenS.getD w 0) = Cn w ∧ ∀ k, k < lenS.getD w 0 → sch w k = nI (cN w k) ∧ 0 < cN w k ∧ cN w k < 256 := by decide +kernel
/-- what both read of a word -/
def wN (g : Nat → Nat) (b q : Nat) : Nat := if q - b ≤ 8 then pkN g b (q - b) else 0
theorem has_loop {t : V9} {n : Nat} {g : Nat → Nat} {tx : Nat → Int32} (hB : HB t n g tx) {w b : Nat} (hw : w < 10) (hb : b + lenS.getD w 0 ≤ n) : ∀ (d fu k : Nat), k + d = lenS.getD w 0 → d < fu → ∃ r : Int32, fb_X9_hasWord_15 t fu (nI b) w (nI k) = some r ∧ ((r = 1 ∧ ∀ i, k ≤ i → i < lenS.getD w 0 → g (b + i) = cN w i) ∨ (r = 0 ∧ ∃ i, k ≤ i ∧ i < lenS.getD w 0 ∧ g (b + i) ≠ cN w i)) := by
  intro d
  have hn : n ≤ 300 := hB.1
  obtain ⟨e1, e2, e3, e4⟩ := Cn_ev w hw
  have hlen : f_J0_length_8abf5 w = some (nI (lenS.getD w 0)) := by
    unfold f_J0_length_8abf5
    rw [if_pos hw]
    rfl
  induction d with
  | zero =>
    intro fu k hk hf
    obtain ⟨fu, rfl⟩ : ∃ m, fu = m + 1 := ⟨fu - 1, by omega⟩
    refine ⟨1, ?_, Or.inl ⟨rfl, fun i i1 i2 => absurd i2 (by omega)⟩⟩
    show fl_X9_hasWord_15 t (fb_X9_hasWord_15 t fu) _ _ _ = _
    unfold fl_X9_hasWord_15
    rw [hlen, bnd1_s, if_pos (nI_le (by omega) (by omega))]
  | succ d ih =>
    intro fu k hk hf
    obtain ⟨fu, rfl⟩ : ∃ m, fu = m + 1 := ⟨fu - 1, by omega⟩
    obtain ⟨r, i1, i2⟩ := ih fu (k + 1) (by omega) (by omega)
    obtain ⟨c1, c2, c3⟩ := e4 k (by omega)
    have hc : g (b + k) < 2 ^ 31 := Nat.lt_trans (hB.2.2 (b + k) (by omega)).2.1 (by decide)
    have hch : f_J0_charAt_5068e w (nI k) = some (nI (cN w k)) := by
      unfold f_J0_charAt_5068e
      rw [if_pos hw, chk_nI (by omega) (by omega), nI_clamp (by omega), c1]
    have hX : fb_X9_hasWord_15 t (fu + 1) (nI b) w (nI k) = (if g (b + k) = cN w k then fb_X9_hasWord_15 t fu (nI b) w (nI (k + 1)) else some 0) := by
      show fl_X9_hasWord_15 t (fb_X9_hasWord_15 t fu) _ _ _ = _
      unfold fl_X9_hasWord_15
      rw [hlen, bnd1_s, if_neg (nI_ge (by omega) (by omega)), nI_add, x_at hB (p := b + k) (by omega), bnd1_s, hch, bnd1_s, bnd_e, nI_1]
      by_cases he : g (b + k) = cN w k
      · rw [if_pos (by rw [he]), if_pos he]
      · rw [if_neg (fun h => he ((nI_eq hc (by omega)).mp h)), if_neg he]
    rw [hX]
    by_cases he : g (b + k) = cN w k
    · rw [if_pos he]
      refine ⟨r, i1, ?_⟩
      rcases i2 with ⟨z1, z2⟩ | ⟨z1, j, z2, z3, z4⟩
      · refine Or.inl ⟨z1, fun i q1 q2 => ?_⟩
        by_cases hi : i = k
        · rw [hi]; exact he
        · exact z2 i (by omega) q2
      · exact Or.inr ⟨z1, j, by omega, z3, z4⟩
    · rw [if_neg he]
      exact ⟨0, rfl, Or.inr ⟨rfl, k, Nat.le_refl _, by omega, he⟩⟩
theorem has_rel {t : V9} {n : Nat} {g : Nat → Nat} {tx : Nat → Int32} (hB : HB t n g tx) {w b e_ : Nat} (hw : w < 10) (hb : b < e_) (he : e_ ≤ n) : f_X9_hasWord t (nI b) (nI e_) w = some (if wN g b e_ = Cn w then 1 else 0) := by
  have hn : n ≤ 300 := hB.1
  obtain ⟨e1, e2, e3, e4⟩ := Cn_ev w hw
  have hlen : f_J0_length_8abf5 w = some (nI (lenS.getD w 0)) := by
    unfold f_J0_length_8abf5
    rw [if_pos hw]
    rfl
  have hg : ∀ i, i < e_ - b → 0 < g (b + i) ∧ g (b + i) < 256 := fun i hi => ⟨(hB.2.2 (b + i) (by omega)).1, (hB.2.2 (b + i) (by omega)).2.1⟩
  have hc : ∀ i, i < lenS.getD w 0 → 0 < cN w (0 + i) ∧ cN w (0 + i) < 256 := fun i hi => by rw [Nat.zero_add]; exact (e4 i hi).2
  unfold f_X9_hasWord
  rw [hlen, bnd1_s, sub_nI2 (by omega)]
  by_cases hl : e_ - b = lenS.getD w 0
  · rw [if_pos (by rw [hl])]
    obtain ⟨r, i1, i2⟩ := has_loop hB hw (b := b) (by omega) (lenS.getD w 0) FU 0 (by omega) (by show _ < 8589934592; omega)
    refine Eq.trans i1 ?_
    unfold wN
    rw [if_pos (show e_ - b ≤ 8 by omega)]
    rcases i2 with ⟨z1, z2⟩ | ⟨z1, j, z2, z3, z4⟩
    · rw [z1, if_pos]
      rw [hl, ← e3]
      exact pkN_eq g (cN w) b 0 _ (fun i hi => by rw [Nat.zero_add]; exact z2 i (by omega) hi)
    · rw [z1, if_neg]
      intro h
      rw [← e3] at h
      have := (pkN_inj g (cN w) b 0 _ _ hg hc h).2 j (by omega)
      rw [Nat.zero_add] at this
      exact z4 this
  · rw [if_neg (fun h => hl ((nI_eq (by omega) (by omega)).mp h)), if_neg]
    unfold wN
    by_cases h8 : e_ - b ≤ 8
    · rw [if_pos h8]
      intro h
      rw [← e3] at h
      exact hl (pkN_inj g (cN w) b 0 _ _ hg hc h).1
    · rw [if_neg h8]
      omega
end WO
