section LRS
theorem line_s {t : V9} {n : Nat} {g : Nat → Nat} {tx : Nat → Int32} (hB : HB t n g tx) {b e_ c : Nat} {s : V7} {nm : Nat → Int32} {kd nu fa fq : Int32} {ra : Int32} {al sv : Nat → Int32} {so va : Int32} {wo : Int64} {wr ba rd : Int32} {to : Nat → Int32} {z : Int32 × Int32 × Int32 × Int32 × Int64 × Int64 × (Nat → Int32)} (hbe : b < e_) (hen : e_ ≤ n) (hF : FB (b + 1) fa fq ba fa) (hL : TL fa s to) (hc : s.2.2.2.2 = nI c) (hc4 : c ≤ 4) (h4 : c = 4 → fa ≠ 0) : LR n b tx ra al sv wr z (fb_X5_readSetting_66 t FU (s, nm, nI e_, kd, nI b, nu, fa, fq) 9 3 (nI 0)) (mst (bnd2 (fc_X12_stuckLine_20 (ra, al, tx, sv, nI e_, nI n, nI b, so, va, wo, wr, ba, fa, to, rd, z)) fun r_10 u_11 => chkbo r_10 <| some (r_10, u_11))) := by
  have h9 : to 9 = nI c := by
    obtain ⟨-, ⟨c0, -, q2, q3, -⟩, -⟩ := hL
    rw [q3, ← q2, hc]
  obtain ⟨b1, ps1, kd1, nu1, re1, so1, va1, wo1, a1, a2, a3, a4, a5⟩ := token_rel hB kd (nI b) nu fa fq (ra := ra) (al := al) (sv := sv) (bm := nI b) (so := so) (va := va) (wo := wo) (z := (wr, ba, fa, to, rd, z)) hen
  rw [show FU = 8589934588 + 1 + 1 + 1 + 1 from rfl]
  unfold fc_X12_stuckLine_20
  rw [a4, bnd1_s]
  rcases num_rel hB (k := 0) (x2 := 9) (x3 := 3) (fu := 8589934588 + 1 + 1 + 1) (lo := 0) (hi := 9999) (ra := ra) (al := al) (sv := sv) (wr := wr) (to := to) (rd := rd) (z := z) a5 (hF.up (by omega)) a2 (by decide) (by decide) (a3 s nm) (by decide) (by decide) (fun m hm _ => can_s0 hm) with ⟨c1, c2⟩ | ⟨m1, e1, b2, ps2, kd2, nu2, fa2, fq2, ba2, re2, so2, va2, wo2, c0, c1, c2, c3, c4, c5, c6, c7, c8⟩
  · rw [c1, show f_X12_takes _ (0 : Int32) (9999 : Int32) = _ from c2, bnd2_s, if_pos rfl, bnd2_s, chkbo0, mst_0]
    exact Or.inl ⟨_, _, rfl, rfl, rfl, rfl, rfl, rfl, rfl⟩
  · rw [c1, show f_X12_takes _ (0 : Int32) (9999 : Int32) = _ from c3, bnd2_s, if_neg (by decide)]
    dsimp only
    rcases num_rel hB (k := 0 + 1) (x2 := 9) (x3 := 3) (fu := 8589934588 + 1 + 1) (lo := m1) (hi := 9999) (ra := ra) (al := al) (sv := sv) (wr := wr) (to := to) (rd := nI m1) (z := z) c6 c7 c5 (by decide) (by decide) (c2 s) (by omega) (by decide) (fun m hm hnu => can_s1 hm c0 hnu (show upd nm 0 (nI m1) 0 = nI m1 from upd_s _ _ _)) with ⟨f1, f2⟩ | ⟨m2, e2, b3, ps3, kd3, nu3, fa3, fq3, ba3, re3, so3, va3, wo3, f0, f1, f2, f3, f4, f5, f6, f7, f8⟩
    · rw [f1, show f_X12_takes _ (nI m1) (9999 : Int32) = _ from f2, bnd2_s, if_pos rfl, bnd2_s, chkbo0, mst_0]
      exact Or.inl ⟨_, _, rfl, rfl, rfl, rfl, rfl, rfl, rfl⟩
    · rw [f1, show f_X12_takes _ (nI m1) (9999 : Int32) = _ from f3, bnd2_s, if_neg (by decide)]
      dsimp only
      rcases num_rel hB (k := 0 + 1 + 1) (x2 := 9) (x3 := 3) (fu := 8589934588 + 1) (lo := 0) (hi := 1) (ra := ra) (al := al) (sv := sv) (wr := wr) (to := to) (rd := nI m2) (z := z) f6 f7 f5 (by decide) (by decide) (f2 s) (by decide) (by decide) (fun m hm hnu => can_s2 hm hnu) with ⟨i1, i2⟩ | ⟨m3, e3, b4, ps4, kd4, nu4, fa4, fq4, ba4, re4, so4, va4, wo4, i0, i1, i2, i3, i4, i5, i6, i7, i8⟩
      · rw [i1, show f_X12_takes _ (0 : Int32) (1 : Int32) = _ from i2, bnd2_s, if_pos rfl, bnd2_s, chkbo0, mst_0]
        exact Or.inl ⟨_, _, rfl, rfl, rfl, rfl, rfl, rfl, rfl⟩
      · rw [i1, show f_X12_takes _ (0 : Int32) (1 : Int32) = _ from i3, bnd2_s, if_neg (by decide)]
        dsimp only
        have h9i : vp_in (9 : Int32) 22 := by unfold vp_in; decide
        rw [chk_in h9i, show ((9 : Int32)).toNatClampNeg = 9 from rfl]
        have hz : fa4 = 0 → fa = 0 ∧ m3 ≤ 1 := fun e => ⟨(c8 (f8 (i8 e).1).1).1, (i8 e).2.2⟩
        have n0 : upd (upd (upd nm 0 (nI m1)) (0 + 1) (nI m2)) (0 + 1 + 1) (nI m3) 0 = nI m1 := by
          rw [upd_n (by decide), upd_n (by decide), upd_s]
        have n1 : upd (upd (upd nm 0 (nI m1)) (0 + 1) (nI m2)) (0 + 1 + 1) (nI m3) 1 = nI m2 := by
          rw [upd_n (by decide)]
          exact upd_s _ _ _
        have n2 : upd (upd (upd nm 0 (nI m1)) (0 + 1) (nI m2)) (0 + 1 + 1) (nI m3) 2 = nI m3 := upd_s _ _ _
        by_cases hc' : c < 4
        · have hp := put_s s (upd (upd (upd nm 0 (nI m1)) (0 + 1) (nI m2)) (0 + 1 + 1) (nI m3)) (nI e3, 2, nI b3, nI m3, fa4, fq4) hc' hc
          rw [n0, n1, n2] at hp
          have hE := x_end (fu := 8589934588) (x3 := 3) (k := 0 + 1 + 1 + 1) (by decide) hp (i2 _)
          rw [hE, if_neg (show ¬ (4 : Int32) ≤ to 9 by rw [h9]; exact nI_ge (b := 4) hc' (by decide)), chk_in h9i, h9, show (10 : Int32) + (3 : Int32) * nI c = nI (10 + 3 * c) from by rw [show (3 : Int32) * nI c = nI (3 * c) from pk_mul 3 c]; exact nI_add 10 (3 * c), bnd_e, chk_nI (by omega) (by decide), bnd_e, show nI (10 + 3 * c) + (1 : Int32) = nI (11 + 3 * c) from (nI_1 _).trans (congrArg nI (by omega)), chk_nI (by omega) (by decide), bnd_e, show nI (10 + 3 * c) + (2 : Int32) = nI (12 + 3 * c) from (nI_add (10 + 3 * c) 2).trans (congrArg nI (by omega)), chk_nI (by omega) (by decide), bnd_e, chk_in h9i, chk_in h9i, bnd_e, nI_clamp (n := 10 + 3 * c) (by omega), nI_clamp (n := 11 + 3 * c) (by omega), nI_clamp (n := 12 + 3 * c) (by omega), upd_n (show 9 ≠ 12 + 3 * c by omega), upd_n (show 9 ≠ 11 + 3 * c by omega), upd_n (show 9 ≠ 10 + 3 * c by omega), h9, nI_1, bnd2_s, chkbo1]
          dsimp only
          rcases tk_semi i6 with ⟨d1, d2, e4, d3, d4, d5, d6⟩ | ⟨d1, d2⟩
          · rw [if_pos d1, mst_4 _ d2, d1, d2, d5, d6]
            exact Or.inr ⟨_, _, e4, b4, nu4, fa4, fq4, ba4, va4, wo4, _, _, rfl, rfl, by omega, d3, d4, i7, hL.stuck hc' hc hz⟩
          · rw [if_neg d1, mst_f _ d2]
            exact Or.inl ⟨_, _, rfl, rfl, rfl, rfl, rfl, rfl, rfl⟩
        · have hc5 : c = 4 := by omega
          have hE := x_end (fu := 8589934588) (x3 := 3) (k := 0 + 1 + 1 + 1) (by decide) (put_s4 s (upd (upd (upd nm 0 (nI m1)) (0 + 1) (nI m2)) (0 + 1 + 1) (nI m3)) (nI e3, 2, nI b3, nI m3, fa4, fq4) (by rw [hc, hc5])) (i2 _)
          rw [hE, if_pos (show (4 : Int32) ≤ to 9 by rw [h9, hc5]; decide), bnd2_s, chkbo1]
          dsimp only
          rcases tk_semi i6 with ⟨d1, d2, e4, d3, d4, d5, d6⟩ | ⟨d1, d2⟩
          · rw [if_pos d1, mst_4 _ d2, d1, d2, d5, d6]
            exact Or.inr ⟨_, _, e4, b4, nu4, fa4, fq4, ba4, va4, wo4, _, _, rfl, rfl, by omega, d3, d4, i7, hL.same (fun e => (hz e).1)⟩
          · rw [if_neg d1, mst_f _ d2]
            exact Or.inl ⟨_, _, rfl, rfl, rfl, rfl, rfl, rfl, rfl⟩
theorem line_rel {t : V9} {n : Nat} {g : Nat → Nat} {tx : Nat → Int32} (hB : HB t n g tx) {b : Nat} {s : V7} {nm : Nat → Int32} {ps kd nu fa fq : Int32} {ra : Int32} {al sv : Nat → Int32} {re so va : Int32} {wo : Int64} {wr ba rd : Int32} {to : Nat → Int32} {z : Int32 × Int32 × Int32 × Int32 × Int64 × Int64 × (Nat → Int32)} (hT : TK n g b ps kd nu re so va wo) (hF : FB b fa fq ba fa) (hL : TL fa s to) (h0 : kd ≠ 0) : LR n b tx ra al sv wr z (f_X5_readSetting (s, nm, ps, kd, nI b, nu, fa, fq) t) (mst (f_X12_line (ra, al, tx, sv, re, nI n, nI b, so, va, wo, wr, ba, fa, to, rd, z))) := by
  have hn := hB.1
  have hno : kd ≠ 1 → so ≠ 2 → LR n b tx ra al sv wr z (f_X5_readSetting (s, nm, ps, kd, nI b, nu, fa, fq) t) (mst (f_X12_line (ra, al, tx, sv, re, nI n, nI b, so, va, wo, wr, ba, fa, to, rd, z))) := by
    intro h1 h2
    have hx : f_X5_readSetting (s, nm, ps, kd, nI b, nu, fa, fq) t = some (0, (s, nm, ps, kd, nI b, nu, fa, fq)) := by
      unfold f_X5_readSetting fc_X5_readSetting_17
      dsimp only
      rw [if_neg h1, if_pos rfl]
    have hm : f_X12_line (ra, al, tx, sv, re, nI n, nI b, so, va, wo, wr, ba, fa, to, rd, z) = some (0, (ra, al, tx, sv, re, nI n, nI b, so, va, wo, nI b, ba, fa, to, rd, z)) := by
      unfold f_X12_line fc_X12_line_16 f_X12_fails
      dsimp only
      rw [if_neg h2, if_neg (show ¬ (0 : Int64) = 495875089259 by decide), show f_X12_settingOf 0 = some (-1) by decide, bnd1_s, if_pos rfl, bnd2_s, chkbo0]
    rw [hx, hm, mst_0]
    exact Or.inl ⟨_, _, rfl, rfl, rfl, rfl, rfl, rfl, rfl⟩
  rcases hT with ⟨e1, e2, -⟩ | ⟨e_, c1, c2, c3, c4, ⟨e1, e2, e3, e4⟩ | ⟨e1, e2, -⟩ | ⟨e1, e2⟩⟩ | ⟨e1, e2⟩
  · exact absurd e1 h0
  · subst e1 e2 c3 c4
    have hx : f_X5_settingOf (s, nm, nI e_, 1, nI b, nu, fa, fq) t = some (if sx (wN g b e_) = 10 then -1 else nI (sx (wN g b e_))) := x_sett hB c1 c2 (u := (s, nm, nI e_, 1, nI b, nu, fa, fq)) rfl rfl 10 FU 0 rfl (by show 10 < 8589934592; omega)
    obtain ⟨m1, m2⟩ := m_sett (wo := wo) (x := wN g b e_) (by rw [e4]; exact word_N hB c1 c2)
    have h10 : sx (wN g b e_) ≤ 10 := (fst_no (fun w => decide (wN g b e_ = Cn w)) (n := 10) (a := 0) (d := 10) rfl).2.1
    generalize sx (wN g b e_) = xw at hx m1 m2 h10
    by_cases h9 : xw < 9
    · rw [if_neg (by omega)] at hx
      rw [if_pos h9] at m1
      have hn9 : ¬ nI xw = (9 : Int32) := fun e => absurd ((nI_eq (b := 9) (by omega) (by decide)).mp e) (by omega)
      have hX : f_X5_readSetting (s, nm, nI e_, 1, nI b, nu, fa, fq) t = fb_X5_readSetting_66 t FU (s, nm, nI e_, 1, nI b, nu, fa, fq) (nI xw) 1 (nI 0) := by
        unfold f_X5_readSetting fc_X5_readSetting_17 fc_X5_readSetting_47
        dsimp only
        rw [if_pos rfl, hx, bnd1_s, if_neg (nI_nm1 (by omega)), if_neg hn9, if_neg hn9]
        rfl
      rw [hX]
      exact line_p hB h9 c1 c2 hF hL (fun e => absurd (m2.mp e) (by omega)) m1
    · by_cases h9' : xw = 9
      · rw [if_neg (by omega)] at hx
        subst h9'
        have hw := m2.mpr rfl
        subst hw
        have hL0 := hL
        obtain ⟨-, ⟨c, k1, k2, k3, -⟩, -⟩ := hL0
        have h9i : vp_in (9 : Int32) 22 := by unfold vp_in; decide
        by_cases hc : c = 4
        · obtain ⟨fa2, fq2, ba2, d1, d2, d3, d4⟩ := note_rel hF (by omega) (Or.inr rfl) s nm (nI e_) 1 nu (ra := ra) (al := al) (tx := tx) (sv := sv) (re := nI e_) (le := nI n) (bg := nI b) (so := 2) (va := va) (wo := 495875089259) (wr := wr) (z := (to, rd, z))
          have hX : f_X5_readSetting (s, nm, nI e_, 1, nI b, nu, fa, fq) t = fb_X5_readSetting_66 t FU (s, nm, nI e_, 1, nI b, nu, fa2, fq2) 9 3 (nI 0) := by
            unfold f_X5_readSetting fc_X5_readSetting_17 fc_X5_readSetting_47
            dsimp only
            rw [if_pos rfl, hx, bnd1_s, if_neg (nI_nm1 (by decide)), if_pos (show nI 9 = (9 : Int32) from rfl), if_neg (show ¬ s.2.2.2.2 < (4 : Int32) by rw [k2, hc]; decide), d1, bnd1_s, if_pos (show nI 9 = (9 : Int32) from rfl)]
            rfl
          have hM : f_X12_line (ra, al, tx, sv, nI e_, nI n, nI b, 2, va, 495875089259, wr, ba, fa, to, rd, z) = bnd2 (fc_X12_stuckLine_20 (ra, al, tx, sv, nI e_, nI n, nI b, 2, va, 495875089259, wr, ba2, fa2, to, rd, z)) fun r_10 u_11 => chkbo r_10 <| some (r_10, u_11) := by
            unfold f_X12_line fc_X12_line_16 f_X12_stuckLine
            dsimp only
            rw [if_pos rfl, if_pos rfl, chk_in h9i, show ((9 : Int32)).toNatClampNeg = 9 from rfl, if_pos (show to 9 = (4 : Int32) by rw [k3, hc]; rfl), d2, bnd1_s]
          rw [hX, hM]
          exact line_s hB c1 c2 d4 (hL.same (fun e => absurd e d3)) k2 k1 (fun _ => d3)
        · have hX : f_X5_readSetting (s, nm, nI e_, 1, nI b, nu, fa, fq) t = fb_X5_readSetting_66 t FU (s, nm, nI e_, 1, nI b, nu, fa, fq) 9 3 (nI 0) := by
            unfold f_X5_readSetting fc_X5_readSetting_17 fc_X5_readSetting_47
            dsimp only
            rw [if_pos rfl, hx, bnd1_s, if_neg (nI_nm1 (by decide)), if_pos (show nI 9 = (9 : Int32) from rfl), if_pos (show s.2.2.2.2 < (4 : Int32) by rw [k2]; exact nI_lt (b := 4) (by omega) (by decide)), if_pos (show nI 9 = (9 : Int32) from rfl)]
            rfl
          have hM : f_X12_line (ra, al, tx, sv, nI e_, nI n, nI b, 2, va, 495875089259, wr, ba, fa, to, rd, z) = bnd2 (fc_X12_stuckLine_20 (ra, al, tx, sv, nI e_, nI n, nI b, 2, va, 495875089259, wr, ba, fa, to, rd, z)) fun r_10 u_11 => chkbo r_10 <| some (r_10, u_11) := by
            unfold f_X12_line fc_X12_line_16 f_X12_stuckLine
            dsimp only
            rw [if_pos rfl, if_pos rfl, chk_in h9i, show ((9 : Int32)).toNatClampNeg = 9 from rfl, if_neg (show ¬ to 9 = (4 : Int32) from fun e => hc ((nI_eq (b := 4) (by omega) (by decide)).mp (k3.symm.trans e)))]
          rw [hX, hM]
          exact line_s hB c1 c2 (hF.up (by omega)) hL k2 k1 (fun e => absurd e hc)
      · have hx10 : xw = 10 := by omega
        rw [if_pos hx10] at hx
        rw [if_neg h9] at m1
        have hX : f_X5_readSetting (s, nm, nI e_, 1, nI b, nu, fa, fq) t = some (0, (s, nm, nI e_, 1, nI b, nu, fa, fq)) := by
          unfold f_X5_readSetting fc_X5_readSetting_17
          dsimp only
          rw [if_pos rfl, hx, bnd1_s, if_pos rfl]
        have hM : f_X12_line (ra, al, tx, sv, nI e_, nI n, nI b, 2, va, wo, wr, ba, fa, to, rd, z) = some (0, (ra, al, tx, sv, nI e_, nI n, nI b, 2, va, wo, nI b, ba, fa, to, rd, z)) := by
          unfold f_X12_line fc_X12_line_16 f_X12_fails
          dsimp only
          rw [if_pos rfl, if_neg (fun e => h9' (m2.mp e)), m1, bnd1_s, if_pos rfl, bnd2_s, chkbo0]
        rw [hX, hM, mst_0]
        exact Or.inl ⟨_, _, rfl, rfl, rfl, rfl, rfl, rfl, rfl⟩
  · exact hno (by rw [e1]; decide) (by rw [e2]; decide)
  · exact hno (by rw [e1]; decide) (by rw [e2]; decide)
  · exact hno (by rw [e1]; decide) (by rw [e2]; decide)
end LRS
