section PO
/-- the POOL, the BLOCK -/
def RP (BL : Nat) (p : V3) (F : Nat → Int32) : Prop := RQ 43 44 256 p.1 F ∧ ∃ rg ib : Nat, rg < 65536 ∧ ib < BL ∧ p.2.1 = nI rg ∧ F 38 = nI rg ∧ p.2.2.1 = nI ib ∧ F 37 = nI ib ∧ F 39 = p.2.2.2.1 ∧ F 40 = p.2.2.2.2.1 ∧ F 41 = p.2.2.2.2.2.1 ∧ F 42 = p.2.2.2.2.2.2
theorem RP.frame {BL : Nat} {p : V3} {F F2 : Nat → Int32} (h : RP BL p F) (e : ∀ j, 37 ≤ j → j < 300 → F2 j = F j) : RP BL p F2 := by
  obtain ⟨h0, rg, ib, h1, h2, h3, h4, h5, h6, h7, h8, h9, h10⟩ := h
  refine ⟨h0.frame (fun j hj => e j (by omega) (by omega)), rg, ib, h1, h2, h3, ?_, h5, ?_, ?_, ?_, ?_, ?_⟩
  · rw [e 38 (by omega) (by omega)]; exact h4
  · rw [e 37 (by omega) (by omega)]; exact h6
  · rw [e 39 (by omega) (by omega)]; exact h7
  · rw [e 40 (by omega) (by omega)]; exact h8
  · rw [e 41 (by omega) (by omega)]; exact h9
  · rw [e 42 (by omega) (by omega)]; exact h10
theorem ushr_ok : ∀ k : Nat, k < 32 → (((nI k).toUInt32 &&& Int32.toUInt32 31).toBitVec % 32).toNat = k := by decide +kernel
theorem jushr_nI {n k : Nat} (hn : n < 2 ^ 32) (hk : k < 32) : jushr (nI n) (nI k) = nI (n / 2 ^ k) := pk_ushrN hn (nI k) k (ushr_ok k hk)
theorem shr_nI {n k : Nat} (hn : n < 2 ^ 31) (hk : k < 32) : nI n >>> (nI k &&& 31) = nI (n / 2 ^ k) := pk_shrN hn _ k (shl_ok k hk)
theorem and1_nI {n : Nat} (hn : n < 2 ^ 32) : nI n &&& 1 = nI (n % 2) := pk_andN hn 1 (by decide)
theorem xor_nI (a b : Nat) : nI a ^^^ nI b = nI (a ^^^ b) := by
  apply Int32.toBitVec_inj.mp
  rw [Int32.toBitVec_xor]
  show BitVec.ofNat 32 a ^^^ BitVec.ofNat 32 b = BitVec.ofNat 32 (a ^^^ b)
  apply BitVec.eq_of_toNat_eq
  rw [BitVec.toNat_xor, BitVec.toNat_ofNat, BitVec.toNat_ofNat, BitVec.toNat_ofNat, Nat.xor_mod_two_pow]
theorem add_m1 (x : Int32) : x + (-1) = x - 1 := (Int32.sub_eq_add_neg x 1).symm
theorem val_nI (s : V7) {k : Nat} (hk : k < 9) : f_X7_valueOf s (nI k) = some (s.1 k) := by
  unfold f_X7_valueOf
  rw [if_neg (nI_pos (by omega)), if_pos (show nI k < (9 : Int32) from nI_lt (b := 9) hk (by decide)), chk_nI hk (by decide), nI_clamp (by omega)]
theorem lose_rel {BL : Nat} {p : V3} {v : V12} (hR : RP BL p v.2.1) (hBL : 0 < BL) : ∃ (p2 : V3) (F2 : Nat → Int32), f_X3_lose p = some p2 ∧ f_X12_empties v = some (v.1, F2, v.2.2) ∧ RP BL p2 F2 ∧ ∀ j, j < 37 ∨ 300 ≤ j → F2 j = v.2.1 j := by
  obtain ⟨⟨n, h, q1, q2, q3, q4, q5, q6⟩, rg, ib, h1, h2, h3, h4, h5, h6, h7, h8, h9, h10⟩ := hR
  refine ⟨((p.1.1, 0, 0), 0, 0, p.2.2.2.1, p.2.2.2.2.1, p.2.2.2.2.2.1, p.2.2.2.2.2.2 + p.1.2.2), upd (upd (upd (upd v.2.1 42 (v.2.1 42 + v.2.1 43)) 43 (nI 0)) 37 (nI 0)) 38 (nI 0), rfl, ?_, ?_, ?_⟩
  · unfold f_X12_empties
    simp (disch := decide) only [lit_nI, chk_nI, nI_clamp, bnd_e]
  · refine ⟨⟨0, 0, by omega, by omega, rfl, rfl, rfl, fun k hk => absurd hk (by omega)⟩, 0, 0, by omega, hBL, rfl, rfl, rfl, rfl, h7, h8, h9, ?_⟩
    show v.2.1 42 + v.2.1 43 = p.2.2.2.2.2.2 + p.1.2.2
    rw [h10, q5, q3]
  · intro j hj
    rw [upd_n (by omega), upd_n (by omega), upd_n (by omega), upd_n (by omega)]
/-- the bits of a full BLOCK -/
theorem pour_loop (rg : Nat) (hrg : rg < 65536) : ∀ (y f1 f2 : Nat) (p : V3) (v : V12), y < f1 → y < f2 → y ≤ 31 → RQ 43 44 256 p.1 v.2.1 → p.2.1 = nI rg → v.2.1 38 = nI rg → v.2.1 39 = p.2.2.2.1 → v.2.1 40 = p.2.2.2.2.1 → ∃ (p2 : V3) (F2 : Nat → Int32), fb_X3_fillFrom_4 f1 p (nI y - 1) = some p2 ∧ fb_X12_pours_7 f2 v (nI y - 1) = some (v.1, upd (upd F2 37 (nI 0)) 38 (nI 0), v.2.2) ∧ RQ 43 44 256 p2.1 F2 ∧ F2 39 = p2.2.2.2.1 ∧ F2 40 = p2.2.2.2.2.1 ∧ p2.2.2.2.2.2 = p.2.2.2.2.2 ∧ ∀ j, j < 39 ∨ 300 ≤ j ∨ j = 41 ∨ j = 42 → F2 j = v.2.1 j := by
  intro y
  induction y with
  | zero =>
    intro f1 f2 p v hf1 hf2 hy hQ hr1 hr2 e39 e40
    obtain ⟨f1, rfl⟩ : ∃ m, f1 = m + 1 := ⟨f1 - 1, by omega⟩
    obtain ⟨f2, rfl⟩ : ∃ m, f2 = m + 1 := ⟨f2 - 1, by omega⟩
    refine ⟨p, v.2.1, ?_, ?_, hQ, e39, e40, rfl, fun _ _ => rfl⟩
    · unfold fb_X3_fillFrom_4 fl_X3_fillFrom_4
      rw [if_pos (by decide)]
    · unfold fb_X12_pours_7 fl_X12_pours_7
      rw [if_pos (by decide)]
      simp (disch := decide) only [lit_nI, chk_nI, nI_clamp, bnd_e]
  | succ y ih =>
    intro f1 f2 p v hf1 hf2 hy hQ hr1 hr2 e39 e40
    obtain ⟨f1, rfl⟩ : ∃ m, f1 = m + 1 := ⟨f1 - 1, by omega⟩
    obtain ⟨f2, rfl⟩ : ∃ m, f2 = m + 1 := ⟨f2 - 1, by omega⟩
    obtain ⟨⟨g, qh, qn⟩, pr, pb, pc, pw, pt⟩ := p
    obtain ⟨n, h, q1, q2, q3, q4, q5, q6⟩ := hQ
    dsimp only at q3 q4 q6 hr1 e39 e40
    subst q3 q4 hr1
    rw [nI_pred]
    have hx0 : ¬ nI y < 0 := nI_pos (by omega)
    have bx : jushr (nI rg) (nI y) &&& 1 = nI (rg / 2 ^ y % 2) := by
      rw [jushr_nI (by omega) (by omega), and1_nI (Nat.lt_of_le_of_lt (Nat.div_le_self _ _) (by omega))]
    have bm : nI rg >>> (nI y &&& 31) &&& 1 = nI (rg / 2 ^ y % 2) := by
      rw [shr_nI (by omega) (by omega), and1_nI (Nat.lt_of_le_of_lt (Nat.div_le_self _ _) (by omega))]
    by_cases hn : n = 256
    · subst hn
      obtain ⟨p2, F2, i1, i2, i3, i4, i5, i6, i7⟩ := ih f1 f2 ((g, nI h, nI 256), nI rg, pb, pc, pw + 1, pt) (v.1, upd v.2.1 40 (v.2.1 40 + 1), v.2.2) (by omega) (by omega) (by omega) ⟨256, h, by omega, q2, rfl, rfl, q5, fun k hk => by rw [show (v.1, upd v.2.1 40 (v.2.1 40 + 1), v.2.2).2.1 = upd v.2.1 40 (v.2.1 40 + 1) from rfl, upd_n (by omega)]; exact q6 k hk⟩ rfl hr2 e39 (by show v.2.1 40 + 1 = pw + 1; rw [e40])
      refine ⟨p2, F2, ?_, ?_, i3, i4, i5, i6, fun j hj => ?_⟩
      · unfold fb_X3_fillFrom_4 fl_X3_fillFrom_4
        dsimp only
        rw [if_neg hx0, if_pos (by decide)]
        dsimp only [bnd]
        rw [add_m1]
        exact i1
      · unfold fb_X12_pours_7 fl_X12_pours_7
        rw [if_neg hx0, show ((43 : Int32)).toNatClampNeg = 43 from rfl, q5, chk_in (by unfold vp_in; decide), if_pos (by decide)]
        simp (disch := decide) only [chk_in (show vp_in (40 : Int32) 4725 by unfold vp_in; decide), bnd_e, add_m1, show ((40 : Int32)).toNatClampNeg = 40 from rfl]
        exact i2
      · rw [i7 j hj]
        show upd v.2.1 40 _ j = _
        rw [upd_n (by omega)]
    · have hn2 : n < 256 := by omega
      have hfr : ∀ j, (j < 39 ∨ 300 ≤ j ∨ j = 41 ∨ j = 42) ∨ j = 40 → upd (upd (upd v.2.1 (44 + n) (nI (rg / 2 ^ y % 2))) 43 (nI (n + 1))) 39 (v.2.1 39 + 1) j = v.2.1 j := by
        intro j hj
        rw [upd_n (by omega), upd_n (by omega), upd_n (by omega)]
      obtain ⟨p2, F2, i1, i2, i3, i4, i5, i6, i7⟩ := ih f1 f2 ((upd g ((h + n) % 512) (nI (rg / 2 ^ y % 2)), nI h, nI (n + 1)), nI rg, pb, pc + 1, pw, pt) (v.1, upd (upd (upd v.2.1 (44 + n) (nI (rg / 2 ^ y % 2))) 43 (nI (n + 1))) 39 (v.2.1 39 + 1), v.2.2) (by omega) (by omega) (by omega)
        ⟨n + 1, h, by omega, q2, rfl, rfl, rfl, fun k hk => by
          show upd (upd (upd v.2.1 (44 + n) _) 43 _) 39 _ (44 + k) = upd g ((h + n) % 512) _ ((h + k) % 512) ∧ isb (upd (upd (upd v.2.1 (44 + n) _) 43 _) 39 _ (44 + k))
          rw [upd_n (by omega), upd_n (by omega)]
          by_cases hk2 : k = n
          · subst hk2
            rw [upd_s, upd_s]
            exact ⟨rfl, isb_of (Nat.mod_lt _ (by decide))⟩
          · rw [upd_n (by omega), upd_n (by omega)]
            exact q6 k (by omega)⟩ rfl ((hfr 38 (by omega)).trans hr2) (by show v.2.1 39 + 1 = pc + 1; rw [e39]) ((hfr 40 (by omega)).trans e40)
      refine ⟨p2, F2, ?_, ?_, i3, i4, i5, i6, fun j hj => ?_⟩
      · unfold fb_X3_fillFrom_4 fl_X3_fillFrom_4
        dsimp only
        rw [if_neg hx0, if_neg (show ¬ (256 : Int32) ≤ nI n from nI_ge (b := 256) hn2 (by decide)), bx, x_append g _ q2 (by omega)]
        dsimp only [bnd, bnd1]
        rw [add_m1]
        exact i1
      · unfold fb_X12_pours_7 fl_X12_pours_7
        rw [if_neg hx0]
        simp (disch := decide) only [chk_in (show vp_in (43 : Int32) 4725 by unfold vp_in; decide), chk_in (show vp_in (38 : Int32) 4725 by unfold vp_in; decide), chk_in (show vp_in (39 : Int32) 4725 by unfold vp_in; decide), bnd_e, add_m1, show ((43 : Int32)).toNatClampNeg = 43 from rfl, show ((38 : Int32)).toNatClampNeg = 38 from rfl, show ((39 : Int32)).toNatClampNeg = 39 from rfl]
        rw [q5, hr2, bm, if_neg (show ¬ nI n = (256 : Int32) by show ¬ nI n = nI 256; rw [nI_eq (by omega) (by decide)]; exact hn), show (44 : Int32) + nI n = nI (44 + n) from nI_add 44 n, chk_nI (by omega) (by decide), nI_clamp (by omega)]
        rw [upd_n (show 43 ≠ 44 + n by omega), q5, nI_1, upd_n (show (39 : Nat) ≠ 43 by decide), upd_n (show 39 ≠ 44 + n by omega)]
        exact i2
      · rw [i7 j hj]
        exact hfr j (Or.inl hj)
theorem feed_main {BL Y ib : Nat} {q : V4} {pc pw pt pg : Int32} {s : V7} {v : V12} {b : Int32} (hQ : RQ 43 44 256 q v.2.1) (h2 : ib < BL) (hBL : 0 < BL) (hBL2 : BL ≤ 64) (hs : s.1 4 = nI BL) (hv : v.2.1 4 = nI BL) (hy : f_X7_yielded s = some (nI Y)) (hY : v.2.2.2.2.2.2.2.2.2.2.2.2.2.2.2.2.2.2.1 = nI Y) (hY2 : Y ≤ 31) (h6 : v.2.1 37 = nI ib) (h7 : v.2.1 39 = pc) (h8 : v.2.1 40 = pw) (h9 : v.2.1 41 = pt) (h10 : v.2.1 42 = pg) : ∀ R2 : Nat, R2 < 65536 → ∃ (p2 : V3) (F2 : Nat → Int32), fc_X3_feed_40 s (q, nI R2, nI ib, pc, pw, pt, pg) = some p2 ∧ fc_X12_blocks_54 v (nI R2) 38 = some (v.1, F2, v.2.2) ∧ RP BL p2 F2 ∧ ∀ j, j < 37 ∨ 300 ≤ j → F2 j = v.2.1 j := by
  intro R2 hR2
  have e1 : fc_X12_blocks_54 v (nI R2) 38 = (if nI (ib + 1) = nI BL then bnd1 (f_X12_pours (v.1, upd (upd v.2.1 38 (nI R2)) 37 (nI (ib + 1)), v.2.2)) fun u_4 => some u_4 else some (v.1, upd (upd v.2.1 38 (nI R2)) 37 (nI (ib + 1)), v.2.2)) := by
    unfold fc_X12_blocks_54
    simp (disch := decide) only [lit_nI, chk_nI, nI_clamp, bnd_e]
    rw [upd_n (show (37 : Nat) ≠ 38 by decide), h6, nI_add, upd_s, upd_n (show (4 : Nat) ≠ 37 by decide), upd_n (show (4 : Nat) ≠ 38 by decide), hv]
  have e2 : fc_X3_feed_40 s (q, nI R2, nI ib, pc, pw, pt, pg) = (if nI (ib + 1) < nI BL then some (q, nI R2, nI (ib + 1), pc, pw, pt, pg) else bnd1 (f_X3_fillFrom (q, nI R2, nI (ib + 1), pc, pw, pt, pg) (nI Y)) fun u_6 => some (u_6.1, (0 : Int32), (0 : Int32), u_6.2.2.2)) := by
    unfold fc_X3_feed_40
    dsimp only [bnd]
    rw [show (4 : Int32) = nI 4 from rfl, val_nI s (by decide), bnd1_s, hs, hy, bnd1_s, nI_1]
  rw [e1, e2]
  by_cases hlt : ib + 1 < BL
  · rw [if_pos (nI_lt hlt (by omega)), if_neg (by rw [nI_eq (by omega) (by omega)]; omega)]
    refine ⟨_, _, rfl, rfl, ⟨hQ.frame (fun j hj => ?_), R2, ib + 1, hR2, hlt, rfl, rfl, rfl, rfl, h7, h8, h9, h10⟩, fun j hj => ?_⟩
    · rw [upd_n (by omega), upd_n (by omega)]
    · rw [upd_n (by omega), upd_n (by omega)]
  · have heq : ib + 1 = BL := by omega
    rw [if_neg (nI_nlt (by omega) (by omega)), heq, if_pos rfl]
    obtain ⟨p2, F2, i1, i2, i3, i4, i5, i6, i7⟩ := pour_loop R2 hR2 Y FU FU (q, nI R2, nI BL, pc, pw, pt, pg) (v.1, upd (upd v.2.1 38 (nI R2)) 37 (nI BL), v.2.2) (by show Y < 8589934592; omega) (by show Y < 8589934592; omega) hY2 (hQ.frame (fun j hj => by show upd (upd v.2.1 38 _) 37 _ j = _; rw [upd_n (by omega), upd_n (by omega)])) rfl rfl h7 h8
    refine ⟨(p2.1, 0, 0, p2.2.2.2), upd (upd F2 37 (nI 0)) 38 (nI 0), ?_, ?_, ⟨i3.frame (fun j hj => ?_), 0, 0, by omega, hBL, rfl, rfl, rfl, rfl, ?_, ?_, ?_, ?_⟩, fun j hj => ?_⟩
    · unfold f_X3_fillFrom
      dsimp only [bnd]
      rw [i1]
      rfl
    · unfold f_X12_pours
      dsimp only [bnd]
      rw [hY, i2]
      rfl
    · rw [upd_n (by omega), upd_n (by omega)]
    · show F2 39 = p2.2.2.2.1
      exact i4
    · exact i5
    · show F2 41 = p2.2.2.2.2.2.1
      rw [i7 41 (by omega), i6]; exact h9
    · show F2 42 = p2.2.2.2.2.2.2
      rw [i7 42 (by omega), i6]; exact h10
    · rw [upd_n (by omega), upd_n (by omega), i7 j (by omega)]
      show upd (upd v.2.1 38 _) 37 _ j = _
      rw [upd_n (by omega), upd_n (by omega)]
theorem reg_ux {rg : Nat} (h1 : rg < 65536) : (nI rg <<< ((1 : Int32) &&& 31)) &&& 65535 = nI (rg * 2 % 65536) := by
  have e1 : nI rg <<< ((1 : Int32) &&& 31) = nI (rg * 2 ^ 1) := pk_shlN _ 1 (by decide) (by omega)
  have e2 := pk_andN (n := rg * 2 ^ 1) (by omega) (m := 65535) 16 (by decide)
  rw [e1, e2]
theorem reg_tx {rg : Nat} (h1 : rg < 65536) : jushr (nI rg) 15 &&& 1 = nI (rg / 2 ^ 15 % 2) := by
  rw [show (15 : Int32) = nI 15 from rfl, jushr_nI (by omega) (by decide), and1_nI (Nat.lt_of_le_of_lt (Nat.div_le_self _ _) (by omega))]
theorem reg_tm {rg : Nat} (h1 : rg < 65536) : nI rg >>> ((15 : Int32) &&& 31) &&& 1 = nI (rg / 2 ^ 15 % 2) := by
  rw [show (15 : Int32) = nI 15 from rfl, shr_nI (by omega) (by decide), and1_nI (Nat.lt_of_le_of_lt (Nat.div_le_self _ _) (by omega))]
theorem feed_21 (v : V12) {rg : Nat} (h1 : rg < 65536) (h4 : v.2.1 38 = nI rg) (t : Int32) : fc_X12_blocks_21 v t = (if t = 0 then fc_X12_blocks_54 v (nI (rg * 2 % 65536)) 38 else fc_X12_blocks_54 v (nI (rg * 2 % 65536) ^^^ 4129) 38) := by
  unfold fc_X12_blocks_21
  rw [chk_in (by unfold vp_in; decide), show ((38 : Int32)).toNatClampNeg = 38 from rfl, h4, reg_ux h1, bnd_e]
theorem feed_mb {rg : Nat} {v : V12} {b : Int32} (h1 : rg < 65536) (h4 : v.2.1 38 = nI rg) : f_X12_blocks v b = (if nI (rg / 2 ^ 15 % 2) = b then fc_X12_blocks_54 v (nI (rg * 2 % 65536)) 38 else fc_X12_blocks_54 v (nI (rg * 2 % 65536) ^^^ 4129) 38) := by
  unfold f_X12_blocks
  rw [chk_in (by unfold vp_in; decide), show ((38 : Int32)).toNatClampNeg = 38 from rfl, h4, reg_tm h1, feed_21 v h1 h4, feed_21 v h1 h4, if_pos (show (0 : Int32) = 0 from rfl), if_neg (show ¬ (1 : Int32) = 0 by decide)]
theorem feed_xb {rg ib : Nat} {q : V4} {pc pw pt pg : Int32} {s : V7} {b : Int32} (h1 : rg < 65536) : f_X3_feed (q, nI rg, nI ib, pc, pw, pt, pg) s b = (if nI (rg / 2 ^ 15 % 2) = b then fc_X3_feed_40 s (q, nI (rg * 2 % 65536), nI ib, pc, pw, pt, pg) else fc_X3_feed_40 s (q, nI (rg * 2 % 65536) ^^^ 4129, nI ib, pc, pw, pt, pg)) := by
  unfold f_X3_feed
  rw [bnd_e, bnd_e, bnd_e, reg_ux h1, reg_tx h1]
theorem feed_rel {BL Y : Nat} {p : V3} {s : V7} {v : V12} {b : Int32} (hR : RP BL p v.2.1) (hBL : 0 < BL) (hBL2 : BL ≤ 64) (hs : s.1 4 = nI BL) (hv : v.2.1 4 = nI BL) (hy : f_X7_yielded s = some (nI Y)) (hY : v.2.2.2.2.2.2.2.2.2.2.2.2.2.2.2.2.2.2.1 = nI Y) (hY2 : Y ≤ 31) : ∃ (p2 : V3) (F2 : Nat → Int32), f_X3_feed p s b = some p2 ∧ f_X12_blocks v b = some (v.1, F2, v.2.2) ∧ RP BL p2 F2 ∧ ∀ j, j < 37 ∨ 300 ≤ j → F2 j = v.2.1 j := by
  obtain ⟨hQ, rg, ib, h1, h2, h3, h4, h5, h6, h7, h8, h9, h10⟩ := hR
  obtain ⟨q, pr, pb, pc, pw, pt, pg⟩ := p
  dsimp only at hQ h3 h5 h7 h8 h9 h10
  subst h3 h5
  -- the register
  have main := feed_main (b := b) hQ h2 hBL hBL2 hs hv hy hY hY2 h6 h7 h8 h9 h10
  have mb := feed_mb (v := v) (b := b) h1 h4
  have xb := feed_xb (q := q) (ib := ib) (pc := pc) (pw := pw) (pt := pt) (pg := pg) (s := s) (b := b) h1
  rw [mb, xb]
  by_cases hb : nI (rg / 2 ^ 15 % 2) = b
  · rw [if_pos hb, if_pos hb]
    exact main _ (Nat.mod_lt _ (by decide))
  · rw [if_neg hb, if_neg hb, show (4129 : Int32) = nI 4129 from rfl, xor_nI]
    exact main _ (Nat.xor_lt_two_pow (n := 16) (Nat.mod_lt _ (by decide)) (by decide))
end PO
