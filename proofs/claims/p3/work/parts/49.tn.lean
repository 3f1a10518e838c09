section TN
/-- a TOKEN of both -/
def TK (n : Nat) (g : Nat → Nat) (b : Nat) (ps kd nu re so va : Int32) (wo : Int64) : Prop := (kd = 0 ∧ so = 0 ∧ b = n ∧ ps = nI n ∧ re = nI n) ∨ (∃ q : Nat, b < q ∧ q ≤ n ∧ ps = nI q ∧ re = nI q ∧ ((kd = 1 ∧ so = 2 ∧ (∀ i, b ≤ i → i < q → lt_ (g i) = true) ∧ wo = (if q - b ≤ 8 then wd g b (q - b) else 0)) ∨ (kd = 2 ∧ so = 3 ∧ ∃ m : Nat, m ≤ 9999 ∧ nu = nI m ∧ va = nI m) ∨ (kd = 3 ∧ so = 4))) ∨ (kd = 4 ∧ so = 1)
theorem fst_no (p : Nat → Bool) {n a d : Nat} (h : a + d = n) : a ≤ fstk p n a d ∧ fstk p n a d ≤ n ∧ ∀ j, a ≤ j → j < fstk p n a d → p j = false := by
  obtain ⟨h1, h2, h3⟩ := fst_ge p n d a (by omega)
  exact ⟨h1, h2, fun j q1 q2 => h3 j q1 q2 (by omega)⟩
theorem fst_up (p : Nat → Bool) {n a d : Nat} (hp : p a = false) (h : a + (d + 1) = n) : a < fstk p n a (d + 1) := by
  have e : fstk p n a (d + 1) = fstk p n (a + 1) d := if_neg (by rw [hp]; decide)
  rw [e]
  exact (fst_no p (n := n) (a := a + 1) (d := d) (by omega)).1
theorem token_loop {t : V9} {n : Nat} {g : Nat → Nat} {tx : Nat → Int32} (hB : HB t n g tx) (kd bg nu fa fq : Int32) {ra : Int32} {al sv : Nat → Int32} {bm so va : Int32} {wo : Int64} {z : Int32 × Int32 × Int32 × (Nat → Int32) × Int32 × Int32 × Int32 × Int32 × Int32 × Int64 × Int64 × (Nat → Int32)} : ∀ (d f1 f2 p : Nat), p + d = n → d < f1 → d < f2 → ∃ (b : Nat) (ps kd2 nu2 re so2 va2 : Int32) (wo2 : Int64), p ≤ b ∧ b ≤ n ∧ (∀ (s : V7) (nm : Nat → Int32), fb_X5_nextToken_0 t f1 (s, nm, nI p, kd, bg, nu, fa, fq) = some (s, nm, ps, kd2, nI b, nu2, fa, fq)) ∧ fb_X12_token_0 f2 (ra, al, tx, sv, nI p, nI n, bm, so, va, wo, z) = some (ra, al, tx, sv, re, nI n, nI b, so2, va2, wo2, z) ∧ TK n g b ps kd2 nu2 re so2 va2 wo2 := by
  intro d
  have hn : n ≤ 300 := hB.1
  induction d with
  | zero =>
    intro f1 f2 p hk hf1 hf2
    obtain ⟨f1, rfl⟩ : ∃ m, f1 = m + 1 := ⟨f1 - 1, by omega⟩
    obtain ⟨f2, rfl⟩ : ∃ m, f2 = m + 1 := ⟨f2 - 1, by omega⟩
    have hk : p = n := by omega
    subst hk
    refine ⟨p, nI p, 0, nu, nI p, 0, va, 0, Nat.le_refl _, Nat.le_refl _, fun s nm => ?_, ?_, Or.inl ⟨rfl, rfl, rfl, rfl, rfl⟩⟩
    · show fl_X5_nextToken_0 t (fb_X5_nextToken_0 t f1) _ = _
      unfold fl_X5_nextToken_0 fc_X5_nextToken_38
      dsimp only
      rw [if_pos (by rw [hB.2.1]; exact nI_le (Nat.le_refl _) (by omega)), x_atE hB, bnd1_s, if_pos rfl]
    · show fl_X12_token_0 (fb_X12_token_0 f2) _ = _
      unfold fl_X12_token_0
      rw [m_seeE hn _ rfl rfl, bnd1_s, if_neg (by decide), bnd1_s, if_neg (by decide), m_seeE hn _ rfl rfl, bnd1_s, if_neg (by decide)]
  | succ d ih =>
    intro f1 f2 p hk hf1 hf2
    obtain ⟨f1, rfl⟩ : ∃ m, f1 = m + 1 := ⟨f1 - 1, by omega⟩
    obtain ⟨f2, rfl⟩ : ∃ m, f2 = m + 1 := ⟨f2 - 1, by omega⟩
    have hc : g p < 2 ^ 31 := Nat.lt_trans (hB.2.2 p (by omega)).2.1 (by decide)
    have hX : ∀ (s : V7) (nm : Nat → Int32), fb_X5_nextToken_0 t (f1 + 1) (s, nm, nI p, kd, bg, nu, fa, fq) = (if bl_ (g p) = true then fb_X5_nextToken_0 t f1 (s, nm, nI (p + 1), kd, bg, nu, fa, fq) else fc_X5_nextToken_38 t (s, nm, nI p, kd, bg, nu, fa, fq)) := by
      intro s nm
      show fl_X5_nextToken_0 t (fb_X5_nextToken_0 t f1) _ = _
      unfold fl_X5_nextToken_0
      dsimp only
      rw [if_neg (by rw [hB.2.1]; exact nI_ge (by omega) (by omega)), x_at hB (p := p) (by omega), bnd1_s, x_blank hc, bnd1_s]
      by_cases hl : bl_ (g p) = true
      · rw [if_neg (by rw [if_pos hl]; decide), if_pos hl, bnd_e, nI_1]
      · rw [if_pos (by rw [if_neg hl]), if_neg hl]
    by_cases hl : bl_ (g p) = true
    · obtain ⟨b, ps, kd2, nu2, re, so2, va2, wo2, a1, a2, a3, a4, a5⟩ := ih f1 f2 (p + 1) (by omega) (by omega) (by omega)
      refine ⟨b, ps, kd2, nu2, re, so2, va2, wo2, by omega, a2, fun s nm => by rw [hX s nm, if_pos hl]; exact a3 s nm, ?_, a5⟩
      refine Eq.trans ?_ a4
      show fl_X12_token_0 (fb_X12_token_0 f2) _ = _
      unfold fl_X12_token_0
      rw [m_see hB (p := p) (by omega) _ rfl rfl rfl, bnd1_s]
      dsimp only
      by_cases h10 : g p = 10
      · rw [if_pos (by rw [h10]; rfl), bnd_e, nI_1]
      · have h32 : g p = 32 := by
          unfold bl_ at hl
          rw [Bool.or_eq_true, decide_eq_true_eq, decide_eq_true_eq] at hl
          omega
        rw [if_neg (show ¬ nI (g p) = (10 : Int32) from fun h => h10 ((nI_eq (b := 10) hc (by decide)).mp h)), bnd1_s, if_pos (by rw [h32]; rfl), bnd_e, nI_1]
    · have hnb : g p ≠ 32 ∧ g p ≠ 10 := by
        unfold bl_ at hl
        rw [Bool.or_eq_true, decide_eq_true_eq, decide_eq_true_eq] at hl
        omega
      have hX2 : ∀ (s : V7) (nm : Nat → Int32), fb_X5_nextToken_0 t (f1 + 1) (s, nm, nI p, kd, bg, nu, fa, fq) = (if lt_ (g p) = true then (bnd1 (f_X5_passWord (s, nm, nI p, kd, nI p, nu, fa, fq) t) fun u_6 => some u_6) else if dg_ (g p) = true then (bnd1 (f_X5_passNumber (s, nm, nI p, kd, nI p, nu, fa, fq) t) fun u_5 => some u_5) else if g p = 59 then some (s, nm, nI (p + 1), 3, nI p, nu, fa, fq) else some (s, nm, nI p, 4, nI p, nu, fa, fq)) := by
        intro s nm
        rw [hX s nm, if_neg hl]
        unfold fc_X5_nextToken_38
        dsimp only
        rw [x_at hB (p := p) (by omega), bnd1_s, if_neg (show ¬ nI (g p) = (-1 : Int32) from fun h => absurd (h ▸ nI_pos hc) (by decide)), x_letter hc, bnd1_s]
        by_cases h1 : lt_ (g p) = true
        · rw [if_neg (by rw [if_pos h1]; decide), if_pos h1]
        · rw [if_pos (by rw [if_neg h1]), if_neg h1, x_digit hc, bnd1_s]
          by_cases h2 : dg_ (g p) = true
          · rw [if_neg (by rw [if_pos h2]; decide), if_pos h2]
          · rw [if_pos (by rw [if_neg h2]), if_neg h2, bnd_e, nI_1]
            by_cases h3 : g p = 59
            · rw [if_pos (by rw [h3]; rfl), if_pos h3]
            · rw [if_neg (show ¬ nI (g p) = (59 : Int32) from fun h => h3 ((nI_eq (b := 59) hc (by decide)).mp h)), if_neg h3]
      have hM2 : fb_X12_token_0 (f2 + 1) (ra, al, tx, sv, nI p, nI n, bm, so, va, wo, z) = (if lt_ (g p) = true then fb_X12_token_74 FU (ra, al, tx, sv, nI p, nI n, nI p, so, va, 0, z) 0 else if dg_ (g p) = true then fb_X12_token_163 FU (ra, al, tx, sv, nI p, nI n, nI p, so, 0, 0, z) 0 else if g p = 59 then some (ra, al, tx, sv, nI (p + 1), nI n, nI p, 4, va, 0, z) else some (ra, al, tx, sv, nI (p + 1), nI n, nI p, 1, va, 0, z)) := by
        show fl_X12_token_0 (fb_X12_token_0 f2) _ = _
        unfold fl_X12_token_0
        rw [m_see hB (p := p) (by omega) _ rfl rfl rfl, bnd1_s]
        rw [if_neg (show ¬ nI (g p) = (10 : Int32) from fun h => hnb.2 ((nI_eq (b := 10) hc (by decide)).mp h)), bnd1_s, if_neg (show ¬ nI (g p) = (32 : Int32) from fun h => hnb.1 ((nI_eq (b := 32) hc (by decide)).mp h)), m_see hB (p := p) (by omega) _ rfl rfl rfl, bnd1_s, if_pos (nI_pos' hc)]
        rw [show f_X12_in (nI (g p)) 97 122 = some (if lt_ (g p) = true then 1 else 0) from x_letter hc, bnd1_s]
        by_cases h1 : lt_ (g p) = true
        · rw [if_neg (by rw [if_pos h1]; decide), if_pos h1]
        · rw [if_pos (by rw [if_neg h1]), if_neg h1, show f_X12_in (nI (g p)) 48 57 = some (if dg_ (g p) = true then 1 else 0) from x_digit hc, bnd1_s]
          by_cases h2 : dg_ (g p) = true
          · rw [if_neg (by rw [if_pos h2]; decide), if_pos h2]
          · rw [if_pos (by rw [if_neg h2]), if_neg h2, bnd_e]
            dsimp only
            rw [nI_1]
            by_cases h3 : g p = 59
            · rw [if_pos (by rw [h3]; rfl), if_pos h3]
            · rw [if_neg (show ¬ nI (g p) = (59 : Int32) from fun h => h3 ((nI_eq (b := 59) hc (by decide)).mp h)), if_neg h3]
      rw [hM2]
      by_cases h1 : lt_ (g p) = true
      · have hm := m_word hB (b := p) (ra := ra) (al := al) (sv := sv) (bg := nI p) (so := so) (va := va) (z := z) (d + 1) FU p 0 rfl hk (by show d + 1 < 8589934592; omega)
        have hu := fst_up (fun k => !lt_ (g k)) (n := n) (a := p) (d := d) (by rw [h1]; rfl) hk
        obtain ⟨q1, q2, q3⟩ := fst_no (fun k => !lt_ (g k)) (n := n) (a := p) (d := d + 1) hk
        refine ⟨p, nI (fstk (fun k => !lt_ (g k)) n p (d + 1)), 1, nu, nI (fstk (fun k => !lt_ (g k)) n p (d + 1)), 2, va, (if fstk (fun k => !lt_ (g k)) n p (d + 1) - p ≤ 8 then wd g p (fstk (fun k => !lt_ (g k)) n p (d + 1) - p) else 0), Nat.le_refl _, by omega, fun s nm => by rw [hX2 s nm, if_pos h1]; unfold f_X5_passWord; rw [x_word hB s nm kd (nI p) nu fa fq (d + 1) FU p hk (by show d + 1 < 8589934592; omega), bnd1_s], by rw [if_pos h1]; exact hm, Or.inr (Or.inl ⟨_, hu, q2, rfl, rfl, Or.inl ⟨rfl, rfl, fun i i1 i2 => ?_, rfl⟩⟩)⟩
        have := q3 i i1 i2
        rw [Bool.not_eq_false'] at this
        exact this
      · rw [if_neg h1]
        by_cases h2 : dg_ (g p) = true
        · obtain ⟨e_, he⟩ : ∃ e_, e_ = fstk (fun k => !dg_ (g k)) n p (d + 1) := ⟨_, rfl⟩
          have hw : ∀ (s : V7) (nm : Nat → Int32), fb_X5_passNumber_5 t FU (s, nm, nI p, kd, nI p, nI (vl g p 0), fa, fq) = some (s, nm, nI e_, (if e_ - p ≤ 4 then 2 else 4), nI p, nI (vl g p (e_ - p)), fa, fq) := by
            intro s nm
            obtain ⟨e2, he2, h⟩ := x_num hB (b := p) s nm kd fa fq (d + 1) FU p 0 rfl hk (by show d + 1 < 8589934592; omega)
            rw [he2, ← he] at h
            exact h
          obtain ⟨e2, he2, hm⟩ := m_num hB (b := p) (ra := ra) (al := al) (sv := sv) (bg := nI p) (so := so) (z := ((0 : Int64), z)) (d + 1) FU p 0 rfl hk (by show d + 1 < 8589934592; omega)
          rw [he2, ← he] at hm
          have hu := fst_up (fun k => !dg_ (g k)) (n := n) (a := p) (d := d) (by rw [h2]; rfl) hk
          obtain ⟨q1, q2, q3⟩ := fst_no (fun k => !dg_ (g k)) (n := n) (a := p) (d := d + 1) hk
          rw [← he] at hu q1 q2 q3
          have hv := vl_lt g p (e_ - p) (fun i hi => by
            have := q3 (p + i) (by omega) (by omega)
            rw [Bool.not_eq_false'] at this
            exact this)
          have hv2 : vl g p (e_ - p) ≤ 9999 := by
            have : 10 ^ min (e_ - p) 4 ≤ 10 ^ 4 := Nat.pow_le_pow_right (by decide) (by omega)
            omega
          refine ⟨p, nI e_, (if e_ - p ≤ 4 then 2 else 4), nI (vl g p (e_ - p)), nI e_, (if e_ - p ≤ 4 then 3 else 1), nI (vl g p (e_ - p)), 0, Nat.le_refl _, by omega, fun s nm => by rw [hX2 s nm, if_neg h1, if_pos h2]; unfold f_X5_passNumber; dsimp only; refine (congrArg (fun o => bnd1 o fun u_5 => some u_5) (hw s nm)).trans (bnd1_s _ _), by rw [if_pos h2]; exact hm, ?_⟩
          by_cases h4 : e_ - p ≤ 4
          · rw [if_pos h4, if_pos h4]
            exact Or.inr (Or.inl ⟨e_, hu, q2, rfl, rfl, Or.inr (Or.inl ⟨rfl, rfl, _, hv2, rfl, rfl⟩)⟩)
          · rw [if_neg h4, if_neg h4]
            exact Or.inr (Or.inr ⟨rfl, rfl⟩)
        · rw [if_neg h2]
          by_cases h3 : g p = 59
          · rw [if_pos h3]
            exact ⟨p, nI (p + 1), 3, nu, nI (p + 1), 4, va, 0, Nat.le_refl _, by omega, fun s nm => by rw [hX2 s nm, if_neg h1, if_neg h2, if_pos h3], rfl, Or.inr (Or.inl ⟨p + 1, by omega, by omega, rfl, rfl, Or.inr (Or.inr ⟨rfl, rfl⟩)⟩)⟩
          · rw [if_neg h3]
            exact ⟨p, nI p, 4, nu, nI (p + 1), 1, va, 0, Nat.le_refl _, by omega, fun s nm => by rw [hX2 s nm, if_neg h1, if_neg h2, if_neg h3], rfl, Or.inr (Or.inr ⟨rfl, rfl⟩)⟩
theorem token_rel {t : V9} {n : Nat} {g : Nat → Nat} {tx : Nat → Int32} (hB : HB t n g tx) (kd bg nu fa fq : Int32) {ra : Int32} {al sv : Nat → Int32} {bm so va : Int32} {wo : Int64} {z : Int32 × Int32 × Int32 × (Nat → Int32) × Int32 × Int32 × Int32 × Int32 × Int32 × Int64 × Int64 × (Nat → Int32)} {p : Nat} (hp : p ≤ n) : ∃ (b : Nat) (ps kd2 nu2 re so2 va2 : Int32) (wo2 : Int64), p ≤ b ∧ b ≤ n ∧ (∀ (s : V7) (nm : Nat → Int32), f_X5_nextToken (s, nm, nI p, kd, bg, nu, fa, fq) t = some (s, nm, ps, kd2, nI b, nu2, fa, fq)) ∧ f_X12_token (ra, al, tx, sv, nI p, nI n, bm, so, va, wo, z) = some (ra, al, tx, sv, re, nI n, nI b, so2, va2, wo2, z) ∧ TK n g b ps kd2 nu2 re so2 va2 wo2 := by
  have hn := hB.1
  exact token_loop hB kd bg nu fa fq (n - p) FU FU p (by omega) (by show n - p < 8589934592; omega) (by show n - p < 8589934592; omega)
end TN
