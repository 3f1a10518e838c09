section LN
def loN (k : Nat) : Nat := (stL k).toNatClampNeg
def hiN (k : Nat) : Nat := (stM k).toNatClampNeg
theorem lohi : ∀ k, k < 9 → stL k = nI (loN k) ∧ stM k = nI (hiN k) ∧ loN k < 2 ^ 31 ∧ hiN k < 2 ^ 31 := by decide
/-- settings in their ranges -/
def SN (f : Nat → Int32) : Prop := ∀ k, k < 9 → ∃ m : Nat, f k = nI m ∧ loN k ≤ m ∧ m ≤ hiN k
theorem SN.sv {f : Nat → Int32} (h : SN f) : ∃ c lg W BL o : Nat, SV f c lg W BL o := by
  obtain ⟨c, c1, c2, c3⟩ := h 0 (by decide)
  obtain ⟨lg, l1, l2, l3⟩ := h 1 (by decide)
  obtain ⟨W, w1, w2, w3⟩ := h 2 (by decide)
  obtain ⟨BL, b1, b2, b3⟩ := h 4 (by decide)
  obtain ⟨o, o1, o2, o3⟩ := h 5 (by decide)
  exact ⟨c, lg, W, BL, o, c1, c2, c3, l1, l2, l3, w1, w2, w3, b1, b2, b3, o1, o2, o3⟩
/-- settings of the class, told of the reference -/
def TL (fa : Int32) (s : V7) (to : Nat → Int32) : Prop := (∀ k, k < 9 → to k = s.1 k) ∧ (∃ c : Nat, c ≤ 4 ∧ s.2.2.2.2 = nI c ∧ to 9 = nI c ∧ ∀ k, k < c → to (10 + 3 * k) = s.2.1 k ∧ to (11 + 3 * k) = s.2.2.1 k ∧ to (12 + 3 * k) = s.2.2.2.1 k ∧ (fa = 0 → isb (s.2.2.2.1 k))) ∧ (fa = 0 → SN s.1)
theorem TL.same {fa fa2 : Int32} {s : V7} {to : Nat → Int32} (h : TL fa s to) (h2 : fa2 = 0 → fa = 0) : TL fa2 s to := by
  obtain ⟨h3, ⟨c, c1, c2, c3, c4⟩, h5⟩ := h
  exact ⟨h3, ⟨c, c1, c2, c3, fun k hk => ⟨(c4 k hk).1, (c4 k hk).2.1, (c4 k hk).2.2.1, fun e => (c4 k hk).2.2.2 (h2 e)⟩⟩, fun e => h5 (h2 e)⟩
theorem TL.plain {fa fa2 : Int32} {s : V7} {to : Nat → Int32} {x m : Nat} (h : TL fa s to) (hx : x < 9) (h2 : fa2 = 0 → fa = 0 ∧ loN x ≤ m ∧ m ≤ hiN x) : TL fa2 (upd s.1 x (nI m), s.2) (upd to x (nI m)) := by
  obtain ⟨h3, ⟨c, c1, c2, c3, c4⟩, h5⟩ := h
  refine ⟨fun k hk => ?_, ⟨c, c1, c2, by rw [upd_n (by omega)]; exact c3, fun k hk => ⟨by rw [upd_n (by omega)]; exact (c4 k hk).1, by rw [upd_n (by omega)]; exact (c4 k hk).2.1, by rw [upd_n (by omega)]; exact (c4 k hk).2.2.1, fun e => (c4 k hk).2.2.2 (h2 e).1⟩⟩, fun e k hk => ?_⟩
  · show upd to x (nI m) k = upd s.1 x (nI m) k
    by_cases e : k = x
    · rw [e, upd_s, upd_s]
    · rw [upd_n e, upd_n e]; exact h3 k hk
  · show ∃ j : Nat, upd s.1 x (nI m) k = nI j ∧ loN k ≤ j ∧ j ≤ hiN k
    by_cases e1 : k = x
    · rw [e1, upd_s]; exact ⟨m, rfl, (h2 e).2⟩
    · rw [upd_n e1]; exact h5 (h2 e).1 k hk
theorem TL.stuck {fa fa2 : Int32} {s : V7} {to : Nat → Int32} {c m1 m2 m3 : Nat} (h : TL fa s to) (hc : c < 4) (hs : s.2.2.2.2 = nI c) (h2 : fa2 = 0 → fa = 0 ∧ m3 ≤ 1) : TL fa2 (s.1, upd s.2.1 c (nI m1), upd s.2.2.1 c (nI m2), upd s.2.2.2.1 c (nI m3), nI (c + 1)) (upd (upd (upd (upd to (10 + 3 * c) (nI m1)) (11 + 3 * c) (nI m2)) (12 + 3 * c) (nI m3)) 9 (nI (c + 1))) := by
  obtain ⟨h3, ⟨c0, c1, c2, c3, c4⟩, h5⟩ := h
  have e0 : c0 = c := (nI_eq (by omega) (by omega)).mp (c2.symm.trans hs)
  rw [e0] at c1 c3 c4
  refine ⟨fun k hk => ?_, ⟨c + 1, by omega, rfl, upd_s _ _ _, fun k hk => ?_⟩, fun e => h5 (h2 e).1⟩
  · rw [upd_n (by omega), upd_n (by omega), upd_n (by omega), upd_n (by omega)]
    exact h3 k hk
  · show upd (upd (upd (upd to (10 + 3 * c) (nI m1)) (11 + 3 * c) (nI m2)) (12 + 3 * c) (nI m3)) 9 (nI (c + 1)) (10 + 3 * k) = upd s.2.1 c (nI m1) k ∧ upd (upd (upd (upd to (10 + 3 * c) (nI m1)) (11 + 3 * c) (nI m2)) (12 + 3 * c) (nI m3)) 9 (nI (c + 1)) (11 + 3 * k) = upd s.2.2.1 c (nI m2) k ∧ upd (upd (upd (upd to (10 + 3 * c) (nI m1)) (11 + 3 * c) (nI m2)) (12 + 3 * c) (nI m3)) 9 (nI (c + 1)) (12 + 3 * k) = upd s.2.2.2.1 c (nI m3) k ∧ (fa2 = 0 → isb (upd s.2.2.2.1 c (nI m3) k))
    by_cases e : k = c
    · rw [e, upd_s, upd_s, upd_s]
      refine ⟨?_, ?_, ?_, fun e1 => isb_of (by have := (h2 e1).2; omega)⟩
      · rw [upd_n (by omega), upd_n (by omega), upd_n (by omega), upd_s]
      · rw [upd_n (by omega), upd_n (by omega), upd_s]
      · rw [upd_n (by omega), upd_s]
    · rw [upd_n (f := s.2.1) e, upd_n (f := s.2.2.1) e, upd_n (f := s.2.2.2.1) e]
      have h6 := c4 k (by omega)
      refine ⟨?_, ?_, ?_, fun e1 => h6.2.2.2 (h2 e1).1⟩
      · rw [upd_n (by omega), upd_n (by omega), upd_n (by omega), upd_n (by omega)]; exact h6.1
      · rw [upd_n (by omega), upd_n (by omega), upd_n (by omega), upd_n (by omega)]; exact h6.2.1
      · rw [upd_n (by omega), upd_n (by omega), upd_n (by omega), upd_n (by omega)]; exact h6.2.2.1
theorem chkbo0 {ρ : Type} (k : Option ρ) : chkbo (0 : Int32) k = k := if_pos (Or.inl rfl)
theorem chkbo1 {ρ : Type} (k : Option ρ) : chkbo (1 : Int32) k = k := if_pos (Or.inr rfl)
theorem in_dec {lo hi m : Nat} (h : lo ≤ m ∧ m ≤ hi) : (decide (lo ≤ m) && decide (m ≤ hi)) = true := by
  rw [Bool.and_eq_true, decide_eq_true_eq, decide_eq_true_eq]; exact h
theorem in_ndec {lo hi m : Nat} (h : ¬ (lo ≤ m ∧ m ≤ hi)) : ¬ (decide (lo ≤ m) && decide (m ≤ hi)) = true := by
  rw [Bool.and_eq_true, decide_eq_true_eq, decide_eq_true_eq]; exact h
theorem can_plain {u : V5} {m x : Nat} {p2 : Int32} (hx : x < 9) (hm : m ≤ 9999) (hu : u.2.2.2.2.2.1 = nI m) : f_X5_canBe u (nI x) p2 = some (if (decide (loN x ≤ m) && decide (m ≤ hiN x)) = true then 1 else 0) := by
  obtain ⟨h1, h2, h3, h4⟩ := lohi x hx
  unfold f_X5_canBe
  have h9 : ¬ (9 : Int32) ≤ nI x := nI_ge (b := 9) hx (by decide)
  rw [if_neg (nI_pos (by omega)), if_neg h9, if_neg h9, chk_nI hx (by decide), chk_nI hx (by decide), nI_clamp (by omega), hu, h1, h2]
  by_cases e1 : m < loN x
  · rw [if_pos (nI_lt e1 h3), if_neg (in_ndec (by omega))]
  · rw [if_neg (nI_nlt (by omega) (by omega))]
    by_cases e2 : hiN x < m
    · rw [if_pos (nI_lt e2 (by omega)), if_neg (in_ndec (by omega))]
    · rw [if_neg (nI_nlt (by omega) h4), if_pos (in_dec (by omega))]
theorem can_9 (u : V5) (p2 : Int32) : f_X5_canBe u 9 p2 = fc_X5_canBe_50 u p2 := by
  unfold f_X5_canBe
  rw [if_neg (show ¬ (9 : Int32) < 0 by decide), if_pos (show (9 : Int32) ≤ 9 by decide)]
theorem can_s0 {u : V5} {m : Nat} (hm : m ≤ 9999) : f_X5_canBe u 9 (nI 0) = some (if (decide (0 ≤ m) && decide (m ≤ 9999)) = true then 1 else 0) := by
  rw [can_9, if_pos (in_dec ⟨Nat.zero_le _, hm⟩)]
  unfold fc_X5_canBe_50
  rw [if_neg (show ¬ nI 0 = (1 : Int32) by decide), if_pos (show nI 0 = (0 : Int32) by decide)]
theorem can_s1 {u : V5} {m l : Nat} (hm : m ≤ 9999) (hl : l ≤ 9999) (hu : u.2.2.2.2.2.1 = nI m) (h0 : u.2.1 0 = nI l) : f_X5_canBe u 9 (nI 1) = some (if (decide (l ≤ m) && decide (m ≤ 9999)) = true then 1 else 0) := by
  rw [can_9]
  unfold fc_X5_canBe_50
  rw [if_pos (show nI 1 = (1 : Int32) by decide), chk_in (show vp_in (0 : Int32) 3 by unfold vp_in; decide), show ((0 : Int32)).toNatClampNeg = 0 from rfl, hu, h0]
  by_cases e1 : m < l
  · rw [if_pos (nI_lt e1 (by omega)), if_neg (in_ndec (by omega))]
  · rw [if_neg (nI_nlt (by omega) (by omega)), if_pos (in_dec (by omega))]
theorem can_s2 {u : V5} {m : Nat} (hm : m ≤ 9999) (hu : u.2.2.2.2.2.1 = nI m) : f_X5_canBe u 9 (nI 2) = some (if (decide (0 ≤ m) && decide (m ≤ 1)) = true then 1 else 0) := by
  rw [can_9]
  unfold fc_X5_canBe_50
  rw [if_neg (show ¬ nI 2 = (1 : Int32) by decide), if_neg (show ¬ nI 2 = (0 : Int32) by decide), hu]
  by_cases e1 : 1 < m
  · rw [if_pos (show (1 : Int32) < nI m from nI_lt (a := 1) e1 (by omega)), if_neg (in_ndec (by omega))]
  · rw [if_neg (show ¬ (1 : Int32) < nI m from nI_nlt (a := 1) (by omega) (by omega)), if_pos (in_dec (by omega))]
theorem put_p (s : V7) (nm : Nat → Int32) (r : Int32 × Int32 × Int32 × Int32 × Int32 × Int32) {x : Nat} (hx : x < 9) : f_X5_putNumbers (s, nm, r) (nI x) = some ((upd s.1 x (nm 0), s.2), nm, r) := by
  unfold f_X5_putNumbers f_X7_setValue
  dsimp only
  rw [if_neg (show ¬ nI x = (9 : Int32) from fun e => absurd ((nI_eq (b := 9) (by omega) (by decide)).mp e) (by omega)), chk_in (show vp_in (0 : Int32) 3 by unfold vp_in; decide), if_neg (nI_pos (by omega)), if_neg (show ¬ (9 : Int32) ≤ nI x from nI_ge (b := 9) hx (by decide)), chk_nI hx (by decide), bnd_e, bnd1_s, nI_clamp (by omega)]
  rfl
theorem put_s (s : V7) (nm : Nat → Int32) (r : Int32 × Int32 × Int32 × Int32 × Int32 × Int32) {c : Nat} (hc : c < 4) (hs : s.2.2.2.2 = nI c) : f_X5_putNumbers (s, nm, r) 9 = some ((s.1, upd s.2.1 c (nm 0), upd s.2.2.1 c (nm 1), upd s.2.2.2.1 c (nm 2), nI (c + 1)), nm, r) := by
  unfold f_X5_putNumbers f_X7_addStuck
  dsimp only
  rw [if_pos rfl, chk_in (show vp_in (0 : Int32) 3 by unfold vp_in; decide), chk_in (show vp_in (1 : Int32) 3 by unfold vp_in; decide), chk_in (show vp_in (2 : Int32) 3 by unfold vp_in; decide), hs, if_neg (nI_pos (by omega)), if_neg (show ¬ (4 : Int32) ≤ nI c from nI_ge (b := 4) hc (by decide)), chk_nI hc (by decide), bnd_e, chk_nI hc (by decide), bnd_e, chk_nI hc (by decide), bnd_e, bnd_e, bnd1_s, nI_clamp (by omega), nI_1]
  rfl
theorem put_s4 (s : V7) (nm : Nat → Int32) (r : Int32 × Int32 × Int32 × Int32 × Int32 × Int32) (hs : s.2.2.2.2 = nI 4) : f_X5_putNumbers (s, nm, r) 9 = some (s, nm, r) := by
  unfold f_X5_putNumbers f_X7_addStuck
  dsimp only
  rw [if_pos rfl, chk_in (show vp_in (0 : Int32) 3 by unfold vp_in; decide), chk_in (show vp_in (1 : Int32) 3 by unfold vp_in; decide), chk_in (show vp_in (2 : Int32) 3 by unfold vp_in; decide), hs, if_neg (nI_pos (by decide)), if_pos (show (4 : Int32) ≤ nI 4 by decide), bnd1_s]
theorem x_end {t : V9} {u u1 u2 : V5} {x2 x3 : Int32} {fu k : Nat} (h : x3 ≤ nI k) (hp : f_X5_putNumbers u x2 = some u1) (hT : f_X5_nextToken u1 t = some u2) : fb_X5_readSetting_66 t (fu + 1) u x2 x3 (nI k) = if u2.2.2.2.1 = 3 then some (1, u2) else some (0, u2) := by
  show fl_X5_readSetting_66 t (fb_X5_readSetting_66 t fu) u x2 x3 (nI k) = _
  unfold fl_X5_readSetting_66
  rw [if_pos h, hp, bnd1_s, hT, bnd1_s]
theorem tk_semi {n : Nat} {g : Nat → Nat} {b : Nat} {ps kd nu re so va : Int32} {wo : Int64} (h : TK n g b ps kd nu re so va wo) : (kd = 3 ∧ so = 4 ∧ ∃ e_ : Nat, b < e_ ∧ e_ ≤ n ∧ ps = nI e_ ∧ re = nI e_) ∨ (kd ≠ 3 ∧ so ≠ 4) := by
  rcases h with ⟨e1, e2, -⟩ | ⟨e_, c1, c2, c3, c4, ⟨e1, e2, -⟩ | ⟨e1, e2, -⟩ | ⟨e1, e2⟩⟩ | ⟨e1, e2⟩
  · exact Or.inr ⟨by rw [e1]; decide, by rw [e2]; decide⟩
  · exact Or.inr ⟨by rw [e1]; decide, by rw [e2]; decide⟩
  · exact Or.inr ⟨by rw [e1]; decide, by rw [e2]; decide⟩
  · exact Or.inl ⟨e1, e2, e_, c1, c2, c3, c4⟩
  · exact Or.inr ⟨by rw [e1]; decide, by rw [e2]; decide⟩
/-- a line, then its semicolon: the reference -/
def mst (o : Option (Int32 × V12)) : Option (Int32 × V12) := bnd2 o fun r_8 u_9 => if r_8 = 0 then some (r_8, u_9) else if u_9.2.2.2.2.2.2.2.1 = 4 then some (r_8, u_9) else f_X12_fails u_9
theorem mst_0 (v : V12) : mst (some (0, v)) = some (0, v) := by
  unfold mst
  rw [bnd2_s, if_pos rfl]
theorem mst_4 (v : V12) (h : v.2.2.2.2.2.2.2.1 = 4) : mst (some (1, v)) = some (1, v) := by
  unfold mst
  rw [bnd2_s, if_neg (by decide), if_pos h]
theorem mst_f (v : V12) (h : v.2.2.2.2.2.2.2.1 ≠ 4) : mst (some (1, v)) = f_X12_fails v := by
  unfold mst
  rw [bnd2_s, if_neg (by decide), if_neg h]
/-- what a line gives, both -/
def LR (n b : Nat) (tx : Nat → Int32) (ra : Int32) (al sv : Nat → Int32) (wr : Int32) (z : Int32 × Int32 × Int32 × Int32 × Int64 × Int64 × (Nat → Int32)) (X : Option (Int32 × V5)) (M : Option (Int32 × V12)) : Prop :=
  (∃ (u2 : V5) (v2 : V12), X = some (0, u2) ∧ M = some (0, v2) ∧ v2.1 = ra ∧ v2.2.1 = al ∧ v2.2.2.1 = tx ∧ v2.2.2.2.1 = sv ∧ v2.2.2.2.2.2.2.2.2.2.2.1 = u2.2.2.2.2.1) ∨
  ∃ (s2 : V7) (nm2 : Nat → Int32) (e_ b2 : Nat) (nu2 fa2 fq2 ba2 va2 : Int32) (wo2 : Int64) (to2 : Nat → Int32) (rd2 : Int32), X = some (1, (s2, nm2, nI e_, 3, nI b2, nu2, fa2, fq2)) ∧ M = some (1, (ra, al, tx, sv, nI e_, nI n, nI b2, 4, va2, wo2, wr, ba2, fa2, to2, rd2, z)) ∧ b < b2 ∧ b2 < e_ ∧ e_ ≤ n ∧ FB b2 fa2 fq2 ba2 fa2 ∧ TL fa2 s2 to2
theorem nI_nm1 {x : Nat} (hx : x < 2 ^ 31) : ¬ nI x = (-1 : Int32) := fun h => absurd (h ▸ nI_pos hx) (by decide)
theorem m_lineP {v : V12} {x : Nat} (hx : x < 9) (h2 : v.2.2.2.2.2.2.2.1 = 2) (h9 : ¬ v.2.2.2.2.2.2.2.2.2.1 = 495875089259) (hs : f_X12_settingOf v.2.2.2.2.2.2.2.2.2.1 = some (nI x)) : f_X12_line v = bnd1 (f_X12_token v) fun u_2 => bnd2 (f_X12_takes u_2 (nI (loN x)) (nI (hiN x))) fun r_5 u_6 => chkbo r_5 <| some (r_5, (u_6.1, u_6.2.1, u_6.2.2.1, u_6.2.2.2.1, u_6.2.2.2.2.1, u_6.2.2.2.2.2.1, u_6.2.2.2.2.2.2.1, u_6.2.2.2.2.2.2.2.1, u_6.2.2.2.2.2.2.2.2.1, u_6.2.2.2.2.2.2.2.2.2.1, u_6.2.2.2.2.2.2.2.2.2.2.1, u_6.2.2.2.2.2.2.2.2.2.2.2.1, u_6.2.2.2.2.2.2.2.2.2.2.2.2.1, upd u_6.2.2.2.2.2.2.2.2.2.2.2.2.2.1 x u_6.2.2.2.2.2.2.2.2.2.2.2.2.2.2.1, u_6.2.2.2.2.2.2.2.2.2.2.2.2.2.2)) := by
  obtain ⟨l1, l2, -, -⟩ := lohi x hx
  unfold f_X12_line fc_X12_line_16
  rw [if_pos h2, if_neg h9, hs, bnd1_s, if_neg (nI_nm1 (by omega))]
  cases f_X12_token v with
  | none => rfl
  | some u =>
    rw [bnd1_s, bnd1_s, (least_nI x hx).1, bnd1_s, (least_nI x hx).2, bnd1_s, l1, l2]
    cases f_X12_takes u (nI (loN x)) (nI (hiN x)) with
    | none => rfl
    | some p =>
      obtain ⟨r, u6⟩ := p
      rw [bnd2_s, bnd2_s, chk_nI (by omega) (by decide), bnd_e, nI_clamp (by omega)]
theorem line_p {t : V9} {n : Nat} {g : Nat → Nat} {tx : Nat → Int32} (hB : HB t n g tx) {b e_ x : Nat} {s : V7} {nm : Nat → Int32} {kd nu fa fq : Int32} {ra : Int32} {al sv : Nat → Int32} {va : Int32} {wo : Int64} {wr ba rd : Int32} {to : Nat → Int32} {z : Int32 × Int32 × Int32 × Int32 × Int64 × Int64 × (Nat → Int32)} (hx : x < 9) (hbe : b < e_) (hen : e_ ≤ n) (hF : FB b fa fq ba fa) (hL : TL fa s to) (h9 : ¬ wo = 495875089259) (hs : f_X12_settingOf wo = some (nI x)) : LR n b tx ra al sv wr z (fb_X5_readSetting_66 t FU (s, nm, nI e_, kd, nI b, nu, fa, fq) (nI x) 1 (nI 0)) (mst (f_X12_line (ra, al, tx, sv, nI e_, nI n, nI b, 2, va, wo, wr, ba, fa, to, rd, z))) := by
  obtain ⟨l1, l2, l3, l4⟩ := lohi x hx
  obtain ⟨b1, ps1, kd1, nu1, re1, so1, va1, wo1, a1, a2, a3, a4, a5⟩ := token_rel hB kd (nI b) nu fa fq (ra := ra) (al := al) (sv := sv) (bm := nI b) (so := 2) (va := va) (wo := wo) (z := (wr, ba, fa, to, rd, z)) hen
  have hM := m_lineP (v := (ra, al, tx, sv, nI e_, nI n, nI b, 2, va, wo, wr, ba, fa, to, rd, z)) hx rfl h9 hs
  rw [a4, bnd1_s] at hM
  rw [show FU = 8589934590 + 1 + 1 from rfl]
  rcases num_rel hB (k := 0) (x2 := nI x) (x3 := 1) (fu := 8589934590 + 1) (lo := loN x) (hi := hiN x) (ra := ra) (al := al) (sv := sv) (wr := wr) (to := to) (rd := rd) (z := z) a5 (hF.up (by omega)) a2 (by decide) (by decide) (a3 s nm) l3 l4 (fun m hm hnu => can_plain hx hm hnu) with ⟨c1, c2⟩ | ⟨m, e2, b2, ps2, kd2, nu2, fa2, fq2, ba2, re2, so2, va2, wo2, c0, c1, c2, c3, c4, c5, c6, c7, c8⟩
  · rw [c2, bnd2_s, chkbo0] at hM
    rw [c1, hM, mst_0]
    exact Or.inl ⟨_, _, rfl, rfl, rfl, rfl, rfl, rfl, rfl⟩
  · rw [c3, bnd2_s, chkbo1] at hM
    have hE := x_end (fu := 8589934590) (x3 := 1) (k := 0 + 1) (by decide) (put_p s (upd nm 0 (nI m)) (nI e2, 2, nI b1, nI m, fa2, fq2) hx) (c2 _)
    rw [c1, hE, hM]
    dsimp only
    rw [upd_s]
    rcases tk_semi c6 with ⟨d1, d2, e3, d3, d4, d5, d6⟩ | ⟨d1, d2⟩
    · rw [if_pos d1, mst_4 _ d2, d1, d2, d5, d6]
      exact Or.inr ⟨(upd s.1 x (nI m), s.2), _, e3, b2, nu2, fa2, fq2, ba2, va2, wo2, _, _, rfl, rfl, by omega, d3, d4, c7, hL.plain hx c8⟩
    · rw [if_neg d1, mst_f _ d2]
      exact Or.inl ⟨_, _, rfl, rfl, rfl, rfl, rfl, rfl, rfl⟩
end LN
