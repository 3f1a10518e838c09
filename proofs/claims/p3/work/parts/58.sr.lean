section SR
theorem set_step (k36 : V12 → Int32 → Option (Int32 × V12)) (v : V12) (h : v.2.2.2.2.2.2.2.1 ≠ 0) : fl_X12_settings_36 k36 v 1 = bnd2 (mst (f_X12_line v)) fun r u => fc_X12_settings_69 k36 u r := by
  unfold fl_X12_settings_36 mst
  rw [if_neg (by decide), if_neg h]
  cases f_X12_line v with
  | none => rfl
  | some p =>
    obtain ⟨r, u⟩ := p
    rw [bnd2_s, bnd2_s]
    by_cases hr : r = 0
    · rw [if_pos hr, if_pos hr, bnd2_s]
    · rw [if_neg hr, if_neg hr]
      by_cases h4 : u.2.2.2.2.2.2.2.1 = 4
      · rw [if_pos h4, if_pos h4, bnd2_s]
      · rw [if_neg h4, if_neg h4]
theorem m_80f (v : V12) : fc_X12_settings_80 v 0 = some (-1, (v.1, upd (upd v.2.1 943 1) 944 v.2.2.2.2.2.2.2.2.2.2.1, v.2.2)) := by
  unfold fc_X12_settings_80 fc_X12_settings_99 fc_X12_settings_122
  rw [if_pos rfl, chk_in (show vp_in (943 : Int32) 4725 by unfold vp_in; decide), bnd_e, if_pos rfl, chk_in (show vp_in (944 : Int32) 4725 by unfold vp_in; decide), bnd_e, chk_in (show vp_in (943 : Int32) 4725 by unfold vp_in; decide), show ((943 : Int32)).toNatClampNeg = 943 from rfl, show ((944 : Int32)).toNatClampNeg = 944 from rfl]
  dsimp only
  rw [upd_n (show 943 ≠ 944 by decide), upd_s, if_neg (by decide)]
theorem m_80s (v : V12) : fc_X12_settings_80 v 1 = (if v.2.2.2.2.2.2.2.2.2.2.2.2.1 = 0 then (bnd1 (f_X12_taken (v.1, upd (upd v.2.1 943 v.2.2.2.2.2.2.2.2.2.2.2.2.1) 944 v.2.2.2.2.2.2.2.2.2.2.2.1, v.2.2)) fun u_7 => some (u_7.2.1 9, u_7)) else some (-1, (v.1, upd (upd v.2.1 943 v.2.2.2.2.2.2.2.2.2.2.2.2.1) 944 v.2.2.2.2.2.2.2.2.2.2.2.1, v.2.2))) := by
  unfold fc_X12_settings_80 fc_X12_settings_99 fc_X12_settings_122
  rw [if_neg (show ¬ (1 : Int32) = 0 by decide), chk_in (show vp_in (943 : Int32) 4725 by unfold vp_in; decide), bnd_e, if_neg (show ¬ (1 : Int32) = 0 by decide), chk_in (show vp_in (944 : Int32) 4725 by unfold vp_in; decide), bnd_e, chk_in (show vp_in (943 : Int32) 4725 by unfold vp_in; decide), show ((943 : Int32)).toNatClampNeg = 943 from rfl, show ((944 : Int32)).toNatClampNeg = 944 from rfl, show ((9 : Int32)).toNatClampNeg = 9 from rfl]
  dsimp only
  rw [upd_n (show 943 ≠ 944 by decide), upd_s]
  simp only [chk_in (show vp_in (9 : Int32) 4725 by unfold vp_in; decide)]
/-- what the reading gives, both -/
def RD (tx : Nat → Int32) (ra : Int32) (al sv : Nat → Int32) (X : Option (Int32 × V5)) (M : Option (Int32 × V12)) : Prop :=
  (∃ (u2 : V5) (v2 : V12), X = some (0, u2) ∧ M = some (-1, v2) ∧ v2.1 = ra ∧ v2.2.1 = upd (upd al 943 u2.2.2.2.2.2.2.1) 944 u2.2.2.2.2.2.2.2 ∧ v2.2.2.1 = tx ∧ v2.2.2.2.1 = sv) ∨
  (∃ (u2 : V5) (v2 : V12), X = some (1, u2) ∧ M = (bnd1 (f_X12_taken v2) fun u_7 => some (u_7.2.1 9, u_7)) ∧ v2.1 = ra ∧ v2.2.1 = upd (upd al 943 0) 944 (-1) ∧ v2.2.2.1 = tx ∧ v2.2.2.2.1 = sv ∧ TL 0 u2.1 v2.2.2.2.2.2.2.2.2.2.2.2.2.2.1)
theorem tk_0 {n : Nat} {g : Nat → Nat} {b : Nat} {ps kd nu re so va : Int32} {wo : Int64} (h : TK n g b ps kd nu re so va wo) : (kd = 0 ↔ so = 0) := by
  rcases h with ⟨e1, e2, -⟩ | ⟨e_, c1, c2, c3, c4, ⟨e1, e2, -⟩ | ⟨e1, e2, -⟩ | ⟨e1, e2⟩⟩ | ⟨e1, e2⟩ <;> rw [e1, e2] <;> decide
theorem read_loop {t : V9} {n : Nat} {g : Nat → Nat} {tx : Nat → Int32} (hB : HB t n g tx) {ra : Int32} {al sv : Nat → Int32} {z : Int32 × Int32 × Int32 × Int32 × Int64 × Int64 × (Nat → Int32)} : ∀ (D f1 f2 b j : Nat) (s : V7) (nm : Nat → Int32) (ps kd nu fa fq re so va : Int32) (wo : Int64) (wr ba rd : Int32) (to : Nat → Int32), n - b < D → D < f1 → D + 1 < f2 → 2 * j ≤ b → b ≤ n → TK n g b ps kd nu re so va wo → FB b fa fq ba fa → TL fa s to → RD tx ra al sv (fb_X5_read_29 t f1 (s, nm, ps, kd, nI b, nu, fa, fq) (nI j)) (fb_X12_settings_36 f2 (ra, al, tx, sv, re, nI n, nI b, so, va, wo, wr, ba, fa, to, rd, z) 1) := by
  have hn := hB.1
  intro D
  induction D with
  | zero => intro f1 f2 b j s nm ps kd nu fa fq re so va wo wr ba rd to h; exact absurd h (Nat.not_lt_zero _)
  | succ D ih =>
    intro f1 f2 b j s nm ps kd nu fa fq re so va wo wr ba rd to hd hf1 hf2 hj hbn hT hF hL
    obtain ⟨f1, rfl⟩ : ∃ m, f1 = m + 1 := ⟨f1 - 1, by omega⟩
    obtain ⟨f2, rfl⟩ : ∃ m, f2 = m + 1 := ⟨f2 - 1, by omega⟩
    show RD tx ra al sv (fl_X5_read_29 t (fb_X5_read_29 t f1) (s, nm, ps, kd, nI b, nu, fa, fq) (nI j)) (fl_X12_settings_36 (fb_X12_settings_36 f2) (ra, al, tx, sv, re, nI n, nI b, so, va, wo, wr, ba, fa, to, rd, z) 1)
    have h300 : ¬ (300 : Int32) ≤ nI j := nI_ge (b := 300) (by omega) (by decide)
    by_cases h0 : kd = 0
    · have hso := (tk_0 hT).mp h0
      have hX : fl_X5_read_29 t (fb_X5_read_29 t f1) (s, nm, ps, kd, nI b, nu, fa, fq) (nI j) = fc_X5_read_77 t (s, nm, ps, kd, nI b, nu, fa, fq) := by
        unfold fl_X5_read_29
        rw [if_neg h300, if_pos h0]
      have hM : fl_X12_settings_36 (fb_X12_settings_36 f2) (ra, al, tx, sv, re, nI n, nI b, so, va, wo, wr, ba, fa, to, rd, z) 1 = fc_X12_settings_80 (ra, al, tx, sv, re, nI n, nI b, so, va, wo, wr, ba, fa, to, rd, z) 1 := by
        unfold fl_X12_settings_36
        rw [if_neg (by decide), if_pos hso]
      rw [hX, hM, m_80s]
      unfold fc_X5_read_77
      dsimp only
      by_cases hfa : fa = 0
      · rw [if_pos hfa, if_pos hfa]
        have hba : ba = -1 := by
          rcases hF.2 with e | ⟨e, -⟩
          · exact e.2
          · rcases e with e | e <;> rw [hfa] at e <;> exact absurd e (by decide)
        rw [hfa] at hL
        rw [hfa, hba]
        exact Or.inr ⟨_, _, rfl, rfl, rfl, rfl, rfl, rfl, hL⟩
      · rw [if_neg hfa, if_neg hfa]
        have hba : ba = fq := by
          rcases hF.2 with e | ⟨-, e, -⟩
          · exact absurd e.1 hfa
          · exact e
        rw [hba]
        exact Or.inl ⟨_, _, rfl, rfl, rfl, rfl, rfl, rfl⟩
    · have hso : so ≠ 0 := fun e => h0 ((tk_0 hT).mpr e)
      rw [set_step (fb_X12_settings_36 f2) (ra, al, tx, sv, re, nI n, nI b, so, va, wo, wr, ba, fa, to, rd, z) hso]
      have hX : fl_X5_read_29 t (fb_X5_read_29 t f1) (s, nm, ps, kd, nI b, nu, fa, fq) (nI j) = bnd2 (f_X5_readSetting (s, nm, ps, kd, nI b, nu, fa, fq) t) fun r_3 u_4 => if r_3 = (0 : Int32) then (some (((0 : Int32), (u_4.1, u_4.2.1, u_4.2.2.1, u_4.2.2.2.1, u_4.2.2.2.2.1, u_4.2.2.2.2.2.1, (1 : Int32), u_4.2.2.2.2.1)))) else (bnd1 (f_X5_nextToken u_4 t) fun u_5 => bnd (nI j + (1 : Int32)) fun x_6 => fb_X5_read_29 t f1 u_5 x_6) := by
        unfold fl_X5_read_29
        rw [if_neg h300, if_neg h0]
      rw [hX]
      rcases line_rel hB (s := s) (nm := nm) (ra := ra) (al := al) (sv := sv) (wr := wr) (rd := rd) (z := z) hT hF hL h0 with ⟨u2, v2, l1, l2, l3, l4, l5, l6, l7⟩ | ⟨s2, nm2, e_, b2, nu2, fa2, fq2, ba2, va2, wo2, to2, rd2, l1, l2, l3, l4, l5, l6, l7⟩
      · rw [l1, bnd2_s, if_pos rfl, l2, bnd2_s]
        unfold fc_X12_settings_69
        rw [if_pos rfl]
        obtain ⟨f2, rfl⟩ : ∃ m, f2 = m + 1 := ⟨f2 - 1, by omega⟩
        have hM : fb_X12_settings_36 (f2 + 1) v2 0 = fc_X12_settings_80 v2 0 := by
          show fl_X12_settings_36 (fb_X12_settings_36 f2) v2 0 = _
          unfold fl_X12_settings_36
          rw [if_pos rfl]
        rw [hM, m_80f, l4, l7]
        exact Or.inl ⟨_, _, rfl, rfl, l3, rfl, l5, l6⟩
      · rw [l1, bnd2_s, if_neg (by decide), l2, bnd2_s]
        unfold fc_X12_settings_69
        rw [if_neg (by decide)]
        obtain ⟨b3, ps3, kd3, nu3, re3, so3, va3, wo3, a1, a2, a3, a4, a5⟩ := token_rel hB 3 (nI b2) nu2 fa2 fq2 (ra := ra) (al := al) (sv := sv) (bm := nI b2) (so := 4) (va := va2) (wo := wo2) (z := (wr, ba2, fa2, to2, rd2, z)) l5
        rw [a3 s2 nm2, bnd1_s, bnd_e, nI_1, a4, bnd1_s]
        exact ih f1 f2 b3 (j + 1) s2 nm2 ps3 kd3 nu3 fa2 fq2 re3 so3 va3 wo3 wr ba2 rd2 to2 (by omega) (by omega) (by omega) (by omega) a2 a5 (l6.up (by omega)) l7
theorem stF_in : ∀ k, k < 9 → stF k = nI (stF k).toNatClampNeg ∧ loN k ≤ (stF k).toNatClampNeg ∧ (stF k).toNatClampNeg ≤ hiN k := by decide
theorem RT.hb {t : V9} {F tx : Nat → Int32} (h : RT t F tx) : ∃ (n : Nat) (g : Nat → Nat), HB t n g tx ∧ F 942 = nI n := by
  obtain ⟨n, h1, h2, h3, h4, h5, h6⟩ := h
  refine ⟨n, fun k => (t.1 k).toNatClampNeg, ⟨h1, h2, fun k hk => ?_⟩, h3⟩
  obtain ⟨b, b1, b2, b3, b4⟩ := h6 k hk
  show 0 < (t.1 k).toNatClampNeg ∧ (t.1 k).toNatClampNeg < 256 ∧ t.1 k = nI (t.1 k).toNatClampNeg ∧ tx k &&& 255 = nI (t.1 k).toNatClampNeg
  rw [b3, nI_clamp (by omega)]
  exact ⟨b1, b2, rfl, b4⟩
theorem x_first (s : V7) : ∃ s2 : V7, f_X7_setFirst s = some s2 ∧ (∀ k, k < 9 → s2.1 k = stF k) ∧ s2.2.2.2.2 = 0 := by
  refine ⟨(va_cpy stF s.1 0 0 9, s.2.1, s.2.2.1, s.2.2.2.1, 0), ?_, fun k h => cpk _ _ h, rfl⟩
  unfold f_X7_setFirst chkcp
  rw [bnd_e, if_neg (by decide), bnd_e]
  rfl
/-- the text's reading, both -/
theorem read_rel {t : V9} (u0 : V5) (v : V12) (hRT : RT t v.2.1 v.2.2.1) : RD v.2.2.1 0 (upd v.2.1 942 0) v.2.2.2.1 (f_X5_read u0 t) (f_X12_settings v) := by
  obtain ⟨n, g, hB, h942⟩ := hRT.hb
  obtain ⟨s2, s1, s3, s4⟩ := x_first u0.1
  obtain ⟨ra, al, tx, sv, re, le, bg, so, va, wo, wr, ba, bd, to, rd, z⟩ := v
  dsimp only at h942 hB
  obtain ⟨to2, t1, t2, t3⟩ := m_first (ra := 0) (al := upd al 942 0) (tx := tx) (sv := sv) (le := nI n) (bg := bg) (so := so) (va := va) (wo := wo) (wr := wr) (rz := (rd, z)) 22 FU 0 re ba bd to (by omega) (by show 22 < 8589934592; omega) (fun j hj => absurd hj (by omega))
  obtain ⟨b3, ps3, kd3, nu3, re3, so3, va3, wo3, a1, a2, a3, a4, a5⟩ := token_rel hB u0.2.2.2.1 u0.2.2.2.2.1 u0.2.2.2.2.2.1 0 (-1) (ra := 0) (al := upd al 942 0) (sv := sv) (bm := bg) (so := so) (va := va) (wo := wo) (z := (wr, -1, 0, to2, rd, z)) (Nat.zero_le n)
  have hX : f_X5_read u0 t = fb_X5_read_29 t FU (s2, u0.2.1, ps3, kd3, nI b3, nu3, 0, -1) (nI 0) := by
    unfold f_X5_read
    rw [s1, bnd1_s, show f_X5_nextToken (s2, u0.2.1, (0 : Int32), u0.2.2.2.1, u0.2.2.2.2.1, u0.2.2.2.2.2.1, 0, -1) t = _ from a3 s2 u0.2.1, bnd1_s]
    rfl
  have hM : f_X12_settings (ra, al, tx, sv, re, le, bg, so, va, wo, wr, ba, bd, to, rd, z) = fb_X12_settings_36 FU (0, upd al 942 0, tx, sv, re3, nI n, nI b3, so3, va3, wo3, wr, -1, 0, to2, rd, z) 1 := by
    unfold f_X12_settings f_X12_atFirst
    dsimp only
    rw [chk_in (show vp_in (942 : Int32) 4725 by unfold vp_in; decide), bnd_e, chk_in (show vp_in (942 : Int32) 4725 by unfold vp_in; decide), bnd_e, show ((942 : Int32)).toNatClampNeg = 942 from rfl, h942, show fb_X12_atFirst_2 FU (0, upd al 942 0, tx, sv, re, nI n, bg, so, va, wo, wr, ba, bd, to, rd, z) (0 : Int32) = _ from t1, bnd1_s, show f_X12_token (0, upd al 942 0, tx, sv, (0 : Int32), nI n, bg, so, va, wo, wr, -1, 0, to2, rd, z) = _ from a4, bnd1_s]
  rw [hX, hM]
  have hn := hB.1
  refine read_loop hB (n + 1) FU FU b3 0 s2 u0.2.1 ps3 kd3 nu3 0 (-1) re3 so3 va3 wo3 wr (-1) rd to2 (by omega) (by show n + 1 < 8589934592; omega) (by show n + 1 + 1 < 8589934592; omega) (by omega) a2 a5 ⟨rfl, Or.inl ⟨rfl, rfl⟩⟩ ⟨fun k hk => by rw [t2 k hk, s3 k hk], ⟨0, by omega, s4, t3 9 (by omega) (by omega), fun k hk => absurd hk (by omega)⟩, fun _ k hk => ⟨(stF k).toNatClampNeg, by rw [s3 k hk]; exact (stF_in k hk).1, (stF_in k hk).2⟩⟩
end SR
