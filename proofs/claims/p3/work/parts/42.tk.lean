section TK
/-- bits, the first one highest -/
def tk (b : Nat → Int32) : Nat → Int32 → Nat → Int32
  | _, acc, 0 => acc
  | k, acc, d + 1 => tk b (k + 1) ((acc <<< ((1 : Int32) &&& 31)) ||| b k) d
theorem tk_congr {b1 b2 : Nat → Int32} : ∀ (d k : Nat) (acc : Int32), (∀ j, k ≤ j → j < k + d → b1 j = b2 j) → tk b1 k acc d = tk b2 k acc d
  | 0, _, _, _ => rfl
  | d + 1, k, acc, h => by
    show tk b1 (k + 1) _ d = tk b2 (k + 1) _ d
    rw [h k (by omega) (by omega)]
    exact tk_congr d (k + 1) _ (fun j h1 h2 => h j (by omega) (by omega))
theorem x_take (g : Nat → Int32) {n h0 m : Nat} (hn : n ≤ 30) (hh : h0 < 512) (hm : m ≤ 256) (hnm : n ≤ m) (pr pb pc pw pt pg : Int32) : ∀ (d fu k : Nat) (acc : Int32), k + d = n → d < fu → fb_X3_takeBits_17 fu ((g, nI ((h0 + k) % 512), nI (m - k)), pr, pb, pc, pw, pt, pg) (nI n) acc (nI k) = some (tk (fun k => g ((h0 + k) % 512)) k acc d, ((g, nI ((h0 + n) % 512), nI (m - n)), pr, pb, pc, pw, pt + nI n, pg)) := by
  intro d
  induction d with
  | zero =>
    intro fu k acc hk hf
    obtain ⟨fu, rfl⟩ : ∃ m, fu = m + 1 := ⟨fu - 1, by omega⟩
    have hk : k = n := by omega
    subst hk
    unfold fb_X3_takeBits_17 fl_X3_takeBits_17
    rw [if_pos (Int32.le_refl _), bnd_e]
    rfl
  | succ d ih =>
    intro fu k acc hk hf
    obtain ⟨fu, rfl⟩ : ∃ m, fu = m + 1 := ⟨fu - 1, by omega⟩
    have ih := ih fu (k + 1) ((acc <<< ((1 : Int32) &&& 31)) ||| g ((h0 + k) % 512)) (by omega) (by omega)
    unfold fb_X3_takeBits_17 fl_X3_takeBits_17
    rw [if_neg (nI_ge (by omega) (by omega)), x_drop g (Nat.mod_lt _ (by decide)) (by omega) (by omega), bnd2_s, bnd_e, bnd_e, nI_1]
    rw [show (h0 + (k + 1)) % 512 = ((h0 + k) % 512 + 1) % 512 by omega, show m - (k + 1) = m - k - 1 by omega] at ih
    exact ih
theorem m_take1 {v : V12} {n : Nat} (hn : n ≤ 30) : ∀ (d fu k : Nat) (acc : Int32), k + d = n → d < fu → fb_X12_take_32 fu v (nI n) acc (nI k) = fb_X12_take_59 FU v (nI n) (tk (fun k => v.2.1 (44 + k)) k acc d) (nI n) := by
  intro d
  induction d with
  | zero =>
    intro fu k acc hk hf
    obtain ⟨fu, rfl⟩ : ∃ m, fu = m + 1 := ⟨fu - 1, by omega⟩
    show fl_X12_take_32 (fb_X12_take_32 fu) v (nI n) acc (nI k) = _
    unfold fl_X12_take_32
    rw [if_pos (nI_le (by omega) (by omega))]
    rfl
  | succ d ih =>
    intro fu k acc hk hf
    obtain ⟨fu, rfl⟩ : ∃ m, fu = m + 1 := ⟨fu - 1, by omega⟩
    show fl_X12_take_32 (fb_X12_take_32 fu) v (nI n) acc (nI k) = _
    unfold fl_X12_take_32
    rw [if_neg (nI_ge (by omega) (by omega)), show (44 : Int32) + nI k = nI (44 + k) from nI_add 44 k, chk_nI (by omega) (by decide), nI_clamp (by omega), bnd_e, bnd_e, nI_1, ih fu (k + 1) _ (by omega) (by omega)]
    rfl
theorem m_take2 {n m : Nat} (hn : n ≤ 30) (hn1 : 1 ≤ n) (hm : m ≤ 256) (acc : Int32) : ∀ (d fu k : Nat) (v : V12), v.2.1 43 = nI m → k + d = m → n ≤ k → d < fu → fb_X12_take_59 fu v (nI n) acc (nI k) = some (acc, (v.1, upd (upd (fun j => if 44 + k - n ≤ j ∧ j < 44 + m - n then v.2.1 (j + n) else v.2.1 j) 43 (nI (m - n))) 41 (v.2.1 41 + nI n), v.2.2)) := by
  intro d
  induction d with
  | zero =>
    intro fu k v h43 hk hnk hf
    obtain ⟨fu, rfl⟩ : ∃ z, fu = z + 1 := ⟨fu - 1, by omega⟩
    have hk : k = m := by omega
    subst hk
    have e : (fun j => if 44 + k - n ≤ j ∧ j < 44 + k - n then v.2.1 (j + n) else v.2.1 j) = v.2.1 := by
      funext j
      rw [if_neg (by omega)]
    unfold fb_X12_take_59 fl_X12_take_59
    rw [show ((43 : Int32)).toNatClampNeg = 43 from rfl, show ((41 : Int32)).toNatClampNeg = 41 from rfl, h43, chk_in (by unfold vp_in; decide), if_pos (Int32.le_refl _), chk_in (by unfold vp_in; decide), chk_in (by unfold vp_in; decide), bnd_e, chk_in (by unfold vp_in; decide), chk_in (by unfold vp_in; decide), bnd_e, e, pk_sub (by omega), upd_n (by decide)]
  | succ d ih =>
    intro fu k v h43 hk hnk hf
    obtain ⟨fu, rfl⟩ : ∃ z, fu = z + 1 := ⟨fu - 1, by omega⟩
    have ih := ih fu (k + 1) (v.1, upd v.2.1 (44 + k - n) (v.2.1 (44 + k)), v.2.2) (by show upd v.2.1 (44 + k - n) _ 43 = _; rw [upd_n (by omega)]; exact h43) (by omega) (by omega) (by omega)
    unfold fb_X12_take_59 fl_X12_take_59
    rw [show ((43 : Int32)).toNatClampNeg = 43 from rfl, h43, chk_in (by unfold vp_in; decide), if_neg (nI_ge (by omega) (by omega)), show (44 : Int32) + nI k = nI (44 + k) from nI_add 44 k, pk_sub (a := 44 + k) (b := n) (by omega), chk_nI (by omega) (by decide), chk_nI (by omega) (by decide), nI_clamp (by omega), nI_clamp (by omega), bnd_e, bnd_e, nI_1, ih]
    congr 4
    · funext j
      dsimp only
      by_cases h41 : j = 41
      · subst h41
        rw [upd_s, upd_s, upd_n (by omega)]
      · rw [upd_n h41, upd_n h41]
        by_cases h43 : j = 43
        · subst h43
          rw [upd_s, upd_s]
        · rw [upd_n h43, upd_n h43]
          by_cases h2 : j = 44 + k - n
          · subst h2
            rw [if_neg (by omega), if_pos (by omega), upd_s, show 44 + k - n + n = 44 + k by omega]
          · by_cases h3 : 44 + (k + 1) - n ≤ j ∧ j < 44 + m - n
            · rw [if_pos h3, if_pos (by omega), upd_n (by omega)]
            · rw [if_neg h3, if_neg (by omega), upd_n h2]
theorem take_rel {BL n : Nat} {p : V3} {v : V12} (hR : RP BL p v.2.1) (hn1 : 1 ≤ n) (hn : n ≤ 30) : ∃ (r : Int32) (p2 : V3) (F2 : Nat → Int32), f_X3_takeBits p (nI n) = some (r, p2) ∧ (if nI n ≤ v.2.1 43 then fb_X12_take_32 FU v (nI n) 0 0 else some (-1, v)) = some (r, (v.1, F2, v.2.2)) ∧ RP BL p2 F2 ∧ ∀ j, j < 37 ∨ 300 ≤ j → F2 j = v.2.1 j := by
  obtain ⟨⟨m, h, q1, q2, q3, q4, q5, q6⟩, rg, ib, h1, h2, h3, h4, h5, h6, h7, h8, h9, h10⟩ := hR
  obtain ⟨⟨g, qh, qn⟩, pr, pb, pc, pw, pt, pg⟩ := p
  dsimp only at q3 q4 q6 h3 h5 h7 h8 h9 h10
  subst q3 q4 h3 h5
  by_cases hnm : n ≤ m
  · have hx := x_take g hn q2 q1 hnm (nI rg) (nI ib) pc pw pt pg n FU 0 0 (by omega) (by show n < 8589934592; omega)
    have hm1 := m_take1 (v := v) hn n FU 0 0 (by omega) (by show n < 8589934592; omega)
    have hm2 := m_take2 hn hn1 q1 (tk (fun k => v.2.1 (44 + k)) 0 0 n) (m - n) FU n v q5 (by omega) (by omega) (by show m - n < 8589934592; omega)
    rw [tk_congr (b1 := fun k => v.2.1 (44 + k)) (b2 := fun k => g ((h + k) % 512)) n 0 0 (fun j a1 a2 => (q6 j (by omega)).1)] at hm1 hm2
    refine ⟨tk (fun k => g ((h + k) % 512)) 0 0 n, ((g, nI ((h + n) % 512), nI (m - n)), nI rg, nI ib, pc, pw, pt + nI n, pg), upd (upd (fun j => if 44 + n - n ≤ j ∧ j < 44 + m - n then v.2.1 (j + n) else v.2.1 j) 43 (nI (m - n))) 41 (v.2.1 41 + nI n), ?_, ?_, ⟨⟨m - n, (h + n) % 512, by omega, Nat.mod_lt _ (by decide), rfl, rfl, ?_, fun k hk => ?_⟩, rg, ib, h1, h2, rfl, ?_, rfl, ?_, ?_, ?_, ?_, ?_⟩, fun j hj => ?_⟩
    · unfold f_X3_takeBits
      dsimp only
      rw [if_pos (nI_le hnm (by omega))]
      rw [show (h + 0) % 512 = h by omega, Nat.sub_zero] at hx
      exact hx
    · rw [if_pos (by rw [q5]; exact nI_le hnm (by omega))]
      exact hm1.trans hm2
    · rw [upd_n (by decide)]; exact upd_s _ _ _
    · rw [upd_n (by omega), upd_n (by omega), if_pos (by omega)]
      have h7 := q6 (k + n) (by omega)
      have e2 : (h + (k + n)) % 512 = ((h + n) % 512 + k) % 512 := by omega
      rw [show 44 + (k + n) = 44 + k + n by omega, e2] at h7
      exact h7
    · rw [upd_n (by decide), upd_n (by decide), if_neg (by omega)]; exact h4
    · rw [upd_n (by decide), upd_n (by decide), if_neg (by omega)]; exact h6
    · rw [upd_n (by decide), upd_n (by decide), if_neg (by omega)]; exact h7
    · rw [upd_n (by decide), upd_n (by decide), if_neg (by omega)]; exact h8
    · show upd _ 41 _ 41 = pt + nI n
      rw [upd_s, h9]
    · rw [upd_n (by decide), upd_n (by decide), if_neg (by omega)]; exact h10
    · rw [upd_n (by omega), upd_n (by omega), if_neg (by omega)]
  · refine ⟨-1, ((g, nI h, nI m), nI rg, nI ib, pc, pw, pt, pg), v.2.1, ?_, ?_, ⟨⟨m, h, q1, q2, rfl, rfl, q5, q6⟩, rg, ib, h1, h2, rfl, h4, rfl, h6, h7, h8, h9, h10⟩, fun _ _ => rfl⟩
    · unfold f_X3_takeBits
      dsimp only
      rw [if_neg (nI_ge (by omega) (by omega))]
    · rw [if_neg (by rw [q5]; exact nI_ge (by omega) (by omega))]
end TK
