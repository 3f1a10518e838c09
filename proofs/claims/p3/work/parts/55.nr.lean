section NR
/-- one number of a line, both -/
theorem num_rel {t : V9} {n : Nat} {g : Nat → Nat} {tx : Nat → Int32} (hB : HB t n g tx) {b : Nat} {s : V7} {nm : Nat → Int32} {ps kd nu fa fq re so va : Int32} {wo : Int64} {u0 : V5} {x2 x3 : Int32} {fu k lo hi : Nat} {ra : Int32} {al sv : Nat → Int32} {wr ba bd rd : Int32} {to : Nat → Int32} {z : Int32 × Int32 × Int32 × Int32 × Int64 × Int64 × (Nat → Int32)} (hT : TK n g b ps kd nu re so va wo) (hF : FB b fa fq ba bd) (hbn : b ≤ n) (hk : k < 3) (h3 : ¬ x3 ≤ nI k) (hu : f_X5_nextToken u0 t = some (s, nm, ps, kd, nI b, nu, fa, fq)) (hlo : lo < 2 ^ 31) (hhi : hi < 2 ^ 31) (hcan : ∀ m : Nat, m ≤ 9999 → nu = nI m → f_X5_canBe (s, nm, ps, kd, nI b, nu, fa, fq) x2 (nI k) = some (if (decide (lo ≤ m) && decide (m ≤ hi)) = true then 1 else 0)) :
    (fb_X5_readSetting_66 t (fu + 1) u0 x2 x3 (nI k) = some (0, (s, nm, ps, kd, nI b, nu, fa, fq)) ∧ f_X12_takes (ra, al, tx, sv, re, nI n, nI b, so, va, wo, wr, ba, bd, to, rd, z) (nI lo) (nI hi) = some (0, (ra, al, tx, sv, re, nI n, nI b, so, va, wo, nI b, ba, bd, to, rd, z))) ∨
    ∃ (m e_ b2 : Nat) (ps2 kd2 nu2 fa2 fq2 ba2 re2 so2 va2 : Int32) (wo2 : Int64), m ≤ 9999 ∧ fb_X5_readSetting_66 t (fu + 1) u0 x2 x3 (nI k) = fb_X5_readSetting_66 t fu (s, upd nm k (nI m), nI e_, 2, nI b, nI m, fa2, fq2) x2 x3 (nI (k + 1)) ∧ (∀ s3 : V7, f_X5_nextToken (s3, upd nm k (nI m), nI e_, 2, nI b, nI m, fa2, fq2) t = some (s3, upd nm k (nI m), ps2, kd2, nI b2, nu2, fa2, fq2)) ∧ f_X12_takes (ra, al, tx, sv, re, nI n, nI b, so, va, wo, wr, ba, bd, to, rd, z) (nI lo) (nI hi) = some (1, (ra, al, tx, sv, re2, nI n, nI b2, so2, va2, wo2, wr, ba2, fa2, to, nI m, z)) ∧ b < b2 ∧ b2 ≤ n ∧ TK n g b2 ps2 kd2 nu2 re2 so2 va2 wo2 ∧ FB b2 fa2 fq2 ba2 fa2 ∧ (fa2 = 0 → fa = 0 ∧ lo ≤ m ∧ m ≤ hi) := by
  have hn := hB.1
  have hx := x_rs (fu := fu) (x2 := x2) hk h3 hu
  have hno : kd ≠ 2 → so ≠ 3 → (fb_X5_readSetting_66 t (fu + 1) u0 x2 x3 (nI k) = some (0, (s, nm, ps, kd, nI b, nu, fa, fq)) ∧ f_X12_takes (ra, al, tx, sv, re, nI n, nI b, so, va, wo, wr, ba, bd, to, rd, z) (nI lo) (nI hi) = some (0, (ra, al, tx, sv, re, nI n, nI b, so, va, wo, nI b, ba, bd, to, rd, z))) := by
    intro h1 h2
    refine ⟨by rw [hx, if_neg h1], ?_⟩
    unfold f_X12_takes f_X12_fails
    dsimp only
    rw [if_neg h2, bnd2_s]
    exact if_pos (Or.inl rfl)
  rcases hT with ⟨e1, e2, -⟩ | ⟨e_, c1, c2, c3, c4, ⟨e1, e2, -⟩ | ⟨e1, e2, m, hm, m1, m2⟩ | ⟨e1, e2⟩⟩ | ⟨e1, e2⟩
  · exact Or.inl (hno (by rw [e1]; decide) (by rw [e2]; decide))
  · exact Or.inl (hno (by rw [e1]; decide) (by rw [e2]; decide))
  · subst e1 e2 m1 m2 c3 c4
    have hc := hcan m hm rfl
    right
    by_cases hr : (decide (lo ≤ m) && decide (m ≤ hi)) = true
    · obtain ⟨b2, ps2, kd2, nu2, re2, so2, va2, wo2, a1, a2, a3, a4, a5⟩ := token_rel hB 2 (nI b) (nI m) fa fq (ra := ra) (al := al) (sv := sv) (bm := nI b) (so := 3) (va := nI m) (wo := wo) (z := (wr, ba, bd, to, nI m, z)) c2
      have hbd := hF.1
      subst hbd
      refine ⟨m, e_, b2, ps2, kd2, nu2, bd, fq, ba, re2, so2, va2, wo2, hm, ?_, fun s3 => a3 s3 _, ?_, by omega, a2, a5, hF.up (by omega), fun h => ⟨h, ?_⟩⟩
      · rw [hx, if_pos rfl, hc, bnd1_s, if_neg (by rw [if_pos hr]; decide)]
      · rw [takes_num hm hlo hhi, if_pos hr, a4, bnd1_s]
      · rw [Bool.and_eq_true, decide_eq_true_eq, decide_eq_true_eq] at hr
        exact hr
    · obtain ⟨fa2, fq2, ba2, d1, d2, d3, d4⟩ := note_rel hF (by omega) (Or.inl rfl) s nm (nI e_) 2 (nI m) (ra := ra) (al := al) (tx := tx) (sv := sv) (re := nI e_) (le := nI n) (bg := nI b) (so := 3) (va := nI m) (wo := wo) (wr := wr) (z := (to, nI m, z))
      obtain ⟨b2, ps2, kd2, nu2, re2, so2, va2, wo2, a1, a2, a3, a4, a5⟩ := token_rel hB 2 (nI b) (nI m) fa2 fq2 (ra := ra) (al := al) (sv := sv) (bm := nI b) (so := 3) (va := nI m) (wo := wo) (z := (wr, ba2, fa2, to, nI m, z)) c2
      refine ⟨m, e_, b2, ps2, kd2, nu2, fa2, fq2, ba2, re2, so2, va2, wo2, hm, ?_, fun s3 => a3 s3 _, ?_, by omega, a2, a5, d4.up (by omega), fun h => absurd h d3⟩
      · rw [hx, if_pos rfl, hc, bnd1_s, if_pos (by rw [if_neg hr]), d1, bnd1_s]
      · rw [takes_num hm hlo hhi, if_neg hr, d2, bnd1_s, a4, bnd1_s]
  · exact Or.inl (hno (by rw [e1]; decide) (by rw [e2]; decide))
  · exact Or.inl (hno (by rw [e1]; decide) (by rw [e2]; decide))
end NR
