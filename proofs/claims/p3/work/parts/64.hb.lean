section HBS
theorem measure_all {u : V0} {F : Nat → Int32} {n : Nat} {g : Nat → Nat} (hB : BT u F n g) {v : V12} (hv : v.2.1 = F) {p : Nat} (hp : p < 3) : ∃ a b : Nat, a ≤ 400 ∧ b ≤ 400 ∧ f_X0_measure u (nI p) = some (u.1, u.2.1, u.2.2.1, nI a, nI b) ∧ ∀ w : V12, w.2.1 = F → f_X12_laysBound w (nI p) (nI n) = some (sB w (lN a) (lN b)) := by
  obtain ⟨a, b, h1, h2, h3, h4⟩ := measure_rel hB hv hp
  refine ⟨a, b, h1, h2, h3, fun w hw => ?_⟩
  obtain ⟨a2, b2, k1, k2, k3, k4⟩ := measure_rel hB hw hp
  rw [h3] at k3
  have e := Option.some.inj k3
  have e1 : nI a = nI a2 := congrArg (fun x : V0 => x.2.2.2.1) e
  have e2 : nI b = nI b2 := congrArg (fun x : V0 => x.2.2.2.2) e
  rw [(nI_eq (by omega) (by omega)).mp e1, (nI_eq (by omega) (by omega)).mp e2]
  exact k4
theorem q_bound {v0 : V11} {v : V12} (hQ : RQ 300 301 400 v0.1.2.2.2.2.2.1 v.2.1) (p1 p2 p3 : Int32) : ∃ (r : Int32) (u : V11) (v2 : V12), u.1 = v0.1 ∧ f_X11_bound v0 p1 p2 p3 = some (r, u) ∧ f_X12_bound v p1 p2 p3 = some (r, v2) ∧ SM v v2 := by
  unfold f_X11_bound f_X12_bound
  rw [show f_X12_in p1 0 2 = f_X12_in p1 0 (nI 3 - 1) from rfl]
  rcases in0 p1 (n := 3) (by decide) with ⟨k, k1, k2, k3⟩ | ⟨k1, k2⟩
  · rw [k3, bnd1_s, if_neg (show ¬ (1 : Int32) = 0 by decide), k2, if_neg (nI_pos (by omega)), if_neg (show ¬ (2 : Int32) < nI k from nI_nlt (a := 2) (by omega) (by decide))]
    rcases there_rel (v := (0, v.2)) hQ p2 (m := 2) (Or.inr rfl) with ⟨t1, t2⟩ | ⟨n, H, u, e, t1, t2, t3, t4⟩
    · rw [show f_X11_loadLatest v0 p2 (2 : Int32) = _ from t1, bnd2_s, if_pos rfl, show f_X12_isThere ((0 : Int32), v.2) p2 (2 : Int32) = _ from t2, bnd1_s, if_pos rfl]
      exact ⟨-1, (v0.1, v0.2.1, v0.2.2.1, v0.2.2.2.1, v0.2.2.2.2.1, v0.2.2.2.2.2.1, v0.2.2.2.2.2.2.1, v0.2.2.2.2.2.2.2), (0, v.2), rfl, rfl, rfl, rfl, rfl, rfl⟩
    · rw [show f_X11_loadLatest v0 p2 (2 : Int32) = _ from t3, bnd2_s, if_neg (show ¬ (1 : Int32) = 0 by decide), show f_X12_isThere ((0 : Int32), v.2) p2 (2 : Int32) = _ from t4, bnd1_s, if_neg (show ¬ (1 : Int32) = 0 by decide)]
      obtain ⟨g, hB⟩ := t2.bt
      obtain ⟨a, b, m1, m2, m3, m4⟩ := measure_rel hB (v := (0, v.2)) rfl k1
      dsimp only
      rw [m3, bnd1_s, e, m4, bnd1_s]
      by_cases hp : p3 = 0
      · rw [if_pos hp, if_pos hp]
        refine ⟨nI a, (v0.1, v0.2.1, v0.2.2.1, v0.2.2.2.1, (u.1, u.2.1, u.2.2.1, nI a, nI b), v0.2.2.2.2.2.1, v0.2.2.2.2.2.2.1, v0.2.2.2.2.2.2.2), sB (0, v.2) (lN a) (lN b), rfl, rfl, ?_, rfl, rfl, rfl⟩
        show some ((lN a).toInt32, _) = _
        rw [lN_i]
      · rw [if_neg hp, if_neg hp]
        refine ⟨nI b, (v0.1, v0.2.1, v0.2.2.1, v0.2.2.2.1, (u.1, u.2.1, u.2.2.1, nI a, nI b), v0.2.2.2.2.2.1, v0.2.2.2.2.2.2.1, v0.2.2.2.2.2.2.2), sB (0, v.2) (lN a) (lN b), rfl, rfl, ?_, rfl, rfl, rfl⟩
        show some ((lN b).toInt32, _) = _
        rw [lN_i]
  · rw [k2, bnd1_s, if_pos rfl]
    refine ⟨-1, v0, (0, v.2), rfl, ?_, rfl, rfl, rfl, rfl⟩
    rcases k1 with k1 | ⟨k, k3, k4, k5⟩
    · rw [if_pos k1]
    · rw [k5, if_neg (nI_pos k4), if_pos (show (2 : Int32) < nI k from nI_lt (a := 2) (by omega) k4)]
/-- does the fraction hold -/
def hd_ (p a b c : Nat) : Bool := if p = 1 then decide (b * (512 + 2 * c * (16 - c)) ≤ 256 * a) else decide (16 * a ≤ b * c)
theorem x_held {u : V0} {p a b c : Nat} (hp : p < 3) (ha : a ≤ 400) (hb : b ≤ 400) (hc : c ≤ 16) (e1 : u.2.2.2.1 = nI a) (e2 : u.2.2.2.2 = nI b) : f_X0_holdsBy u (nI p) (nI c) = some (if hd_ p a b c = true then 1 else 0) := by
  have z1 : 2 * c * (16 - c) ≤ 32 * 16 := Nat.mul_le_mul (by omega) (by omega)
  have z2 : b * (512 + 2 * c * (16 - c)) ≤ 400 * 1024 := Nat.mul_le_mul hb (by omega)
  have z3 : b * c ≤ 400 * 16 := Nat.mul_le_mul hb hc
  unfold f_X0_holdsBy hd_
  rw [e1, e2, show (16 : Int32) - nI c = nI (16 - c) from pk_sub (a := 16) hc, show (2 : Int32) * nI c = nI (2 * c) from pk_mul 2 c, pk_mul, show (512 : Int32) + nI (2 * c * (16 - c)) = nI (512 + 2 * c * (16 - c)) from nI_add 512 _, pk_mul, pk_mul, show (256 : Int32) * nI a = nI (256 * a) from pk_mul 256 a, show (16 : Int32) * nI a = nI (16 * a) from pk_mul 16 a]
  by_cases h1 : p = 1
  · rw [if_pos (show nI p = (1 : Int32) by rw [h1]; rfl), if_pos h1]
    by_cases h : b * (512 + 2 * c * (16 - c)) ≤ 256 * a
    · rw [if_neg (nI_nlt h (by omega)), if_pos (decide_eq_true h)]
    · rw [if_pos (nI_lt (by omega) (by omega)), if_neg (by rw [decide_eq_false h]; decide)]
  · rw [if_neg (show ¬ nI p = (1 : Int32) from fun q => h1 ((nI_eq (b := 1) (by omega) (by decide)).mp q)), if_neg h1]
    by_cases h : 16 * a ≤ b * c
    · rw [if_neg (nI_nlt h (by omega)), if_pos (decide_eq_true h)]
    · rw [if_pos (nI_lt (by omega) (by omega)), if_neg (by rw [decide_eq_false h]; decide)]
theorem m_held {v : V12} {n p a b c : Nat} (hp : p < 3) (ha : a ≤ 400) (hb : b ≤ 400) (hc : c ≤ 16) (e : f_X12_laysBound v (nI p) (nI n) = some (sB v (lN a) (lN b))) : f_X12_isHeld v (nI p) (nI n) (nI c) = some ((if hd_ p a b c = true then 1 else 0), sB v (lN a) (lN b)) := by
  have z1 : 2 * c * (16 - c) ≤ 32 * 16 := Nat.mul_le_mul (by omega) (by omega)
  have z2 : b * (512 + 2 * c * (16 - c)) ≤ 400 * 1024 := Nat.mul_le_mul hb (by omega)
  have z3 : b * c ≤ 400 * 16 := Nat.mul_le_mul hb hc
  have q1 : (sB v (lN a) (lN b)).2.2.2.2.2.2.2.2.2.2.2.2.2.2.2.2.2.2.2.2.1 = lN b := rfl
  have q2 : (sB v (lN a) (lN b)).2.2.2.2.2.2.2.2.2.2.2.2.2.2.2.2.2.2.2.1 = lN a := rfl
  unfold f_X12_isHeld hd_
  rw [e, bnd1_s, q1, q2, show (16 : Int32) - nI c = nI (16 - c) from pk_sub (a := 16) hc, show (2 : Int32) * nI c = nI (2 * c) from pk_mul 2 c, pk_mul, show (512 : Int32) + nI (2 * c * (16 - c)) = nI (512 + 2 * c * (16 - c)) from nI_add 512 _, nI_l (by omega), nI_l (by omega), lN_mul, lN_mul, show (256 : Int64) * lN a = lN (256 * a) from lN_mul 256 a, show (16 : Int64) * lN a = lN (16 * a) from lN_mul 16 a]
  by_cases h1 : p = 1
  · rw [if_pos (show nI p = (1 : Int32) by rw [h1]; rfl), if_pos h1]
    by_cases h : b * (512 + 2 * c * (16 - c)) ≤ 256 * a
    · rw [if_neg (fun q => absurd ((lN_lt (by omega) (by omega)).mp q) (by omega)), if_pos (decide_eq_true h)]
    · rw [if_pos ((lN_lt (by omega) (by omega)).mpr (by omega)), if_neg (by rw [decide_eq_false h]; decide)]
  · rw [if_neg (show ¬ nI p = (1 : Int32) from fun q => h1 ((nI_eq (b := 1) (by omega) (by decide)).mp q)), if_neg h1]
    by_cases h : 16 * a ≤ b * c
    · rw [if_neg (fun q => absurd ((lN_lt (by omega) (by omega)).mp q) (by omega)), if_pos (decide_eq_true h)]
    · rw [if_pos ((lN_lt (by omega) (by omega)).mpr (by omega)), if_neg (by rw [decide_eq_false h]; decide)]
theorem holds_loop {F : Nat → Int32} {n c : Nat} {g : Nat → Nat} (hc : c ≤ 16) : ∀ (d f1 f2 k : Nat) (x2 : Int32) (v0 : V11) (v : V12), k + d = 3 → d < f1 → d < f2 → v0.1.1.1 0 = nI c → F 0 = nI c → v.2.1 = F → BT v0.2.2.2.2.1 F n g → ∃ (r : Int32) (u : V11) (v2 : V12), u.1 = v0.1 ∧ fb_X11_holds_15 f1 v0 x2 (nI k) = some (r, u) ∧ fb_X12_holds_20 f2 v (nI n) x2 (nI k) = some (r, v2) ∧ SM v v2 := by
  intro d
  induction d with
  | zero =>
    intro f1 f2 k x2 v0 v hk hf1 hf2 h0 h1 hv hB
    obtain ⟨f1, rfl⟩ : ∃ m, f1 = m + 1 := ⟨f1 - 1, by omega⟩
    obtain ⟨f2, rfl⟩ : ∃ m, f2 = m + 1 := ⟨f2 - 1, by omega⟩
    have hk : k = 3 := by omega
    subst hk
    refine ⟨x2, v0, v, rfl, ?_, ?_, rfl, rfl, rfl⟩
    · show fl_X11_holds_15 (fb_X11_holds_15 f1) _ _ _ = _
      unfold fl_X11_holds_15
      rw [if_pos (by decide)]
    · show fl_X12_holds_20 (fb_X12_holds_20 f2) _ _ _ _ = _
      unfold fl_X12_holds_20
      rw [if_pos (by decide)]
  | succ d ih =>
    intro f1 f2 k x2 v0 v hk hf1 hf2 h0 h1 hv hB
    obtain ⟨f1, rfl⟩ : ∃ m, f1 = m + 1 := ⟨f1 - 1, by omega⟩
    obtain ⟨f2, rfl⟩ : ∃ m, f2 = m + 1 := ⟨f2 - 1, by omega⟩
    obtain ⟨a, b, m1, m2, m3, m4⟩ := measure_rel hB hv (p := k) (by omega)
    have hX := x_held (u := (v0.2.2.2.2.1.1, v0.2.2.2.2.1.2.1, v0.2.2.2.2.1.2.2.1, nI a, nI b)) (p := k) (c := c) (by omega) m1 m2 hc rfl rfl
    have hM := m_held (v := v) (n := n) (p := k) (c := c) (by omega) m1 m2 hc m4
    have key : ∀ y2 : Int32, ∃ (r : Int32) (u : V11) (v2 : V12), u.1 = v0.1 ∧ fb_X11_holds_15 f1 (v0.1, v0.2.1, v0.2.2.1, v0.2.2.2.1, (v0.2.2.2.2.1.1, v0.2.2.2.2.1.2.1, v0.2.2.2.2.1.2.2.1, nI a, nI b), v0.2.2.2.2.2) y2 (nI (k + 1)) = some (r, u) ∧ fb_X12_holds_20 f2 (sB v (lN a) (lN b)) (nI n) y2 (nI (k + 1)) = some (r, v2) ∧ SM v v2 := fun y2 => ih f1 f2 (k + 1) y2 (v0.1, v0.2.1, v0.2.2.1, v0.2.2.2.1, (v0.2.2.2.2.1.1, v0.2.2.2.2.1.2.1, v0.2.2.2.2.1.2.2.1, nI a, nI b), v0.2.2.2.2.2) (sB v (lN a) (lN b)) (by omega) (by omega) (by omega) h0 h1 hv hB
    have eX : fb_X11_holds_15 (f1 + 1) v0 x2 (nI k) = fb_X11_holds_15 f1 (v0.1, v0.2.1, v0.2.2.1, v0.2.2.2.1, (v0.2.2.2.2.1.1, v0.2.2.2.2.1.2.1, v0.2.2.2.2.1.2.2.1, nI a, nI b), v0.2.2.2.2.2) (if hd_ k a b c = true then x2 ||| ((1 : Int32) <<< (nI k &&& 31)) else x2) (nI (k + 1)) := by
      show fl_X11_holds_15 (fb_X11_holds_15 f1) _ _ _ = _
      unfold fl_X11_holds_15
      rw [if_neg (show ¬ (2 : Int32) < nI k from nI_nlt (a := 2) (by omega) (by decide)), m3, bnd1_s, show f_X7_valueOf v0.1.1 (0 : Int32) = f_X7_valueOf v0.1.1 (nI 0) from rfl, val_nI _ (by decide), bnd1_s, h0, hX, bnd1_s]
      by_cases h : hd_ k a b c = true
      · rw [if_neg (by rw [if_pos h]; decide), if_pos h, bnd_e, bnd_e, nI_1]
      · rw [if_pos (by rw [if_neg h]), if_neg h, bnd_e, nI_1]
    have eM : fb_X12_holds_20 (f2 + 1) v (nI n) x2 (nI k) = fb_X12_holds_20 f2 (sB v (lN a) (lN b)) (nI n) (if hd_ k a b c = true then x2 ||| ((1 : Int32) <<< (nI k &&& 31)) else x2) (nI (k + 1)) := by
      show fl_X12_holds_20 (fb_X12_holds_20 f2) _ _ _ _ = _
      unfold fl_X12_holds_20
      rw [if_neg (show ¬ (3 : Int32) ≤ nI k from nI_ge (b := 3) (by omega) (by decide)), chk_in (show vp_in (0 : Int32) 4725 by unfold vp_in; decide), show ((0 : Int32)).toNatClampNeg = 0 from rfl, hv, h1, hM, bnd2_s]
      by_cases h : hd_ k a b c = true
      · rw [if_neg (by rw [if_pos h]; decide), if_pos h, bnd_e, bnd_e, nI_1]
      · rw [if_pos (by rw [if_neg h]), if_neg h, bnd_e, bnd_e, nI_1, Int32.or_zero]
    rw [eX, eM]
    exact key _
theorem q_holds {B : Nat} {v0 : V11} {v : V12} (hR : R B v0.1 v.2.1) (p : Int32) : ∃ (r : Int32) (u : V11) (v2 : V12), u.1 = v0.1 ∧ f_X11_holds v0 p = some (r, u) ∧ f_X12_holds v p = some (r, v2) ∧ SM v v2 := by
  obtain ⟨c, lg, W, BL, o, hSV, hS, -, -, -, -, hQ, -⟩ := hR
  obtain ⟨f0, -⟩ := hSV.cells hS
  unfold f_X11_holds f_X12_holds
  rcases there_rel (v := (0, v.2)) hQ p (m := 2) (Or.inr rfl) with ⟨t1, t2⟩ | ⟨n, H, u, e, t1, t2, t3, t4⟩
  · rw [show f_X11_loadLatest v0 p (2 : Int32) = _ from t1, bnd2_s, if_pos rfl, show f_X12_isThere ((0 : Int32), v.2) p (2 : Int32) = _ from t2, bnd1_s, if_pos rfl]
    exact ⟨-1, (v0.1, v0.2.1, v0.2.2.1, v0.2.2.2.1, v0.2.2.2.2.1, v0.2.2.2.2.2.1, v0.2.2.2.2.2.2.1, v0.2.2.2.2.2.2.2), (0, v.2), rfl, rfl, rfl, rfl, rfl, rfl⟩
  · rw [show f_X11_loadLatest v0 p (2 : Int32) = _ from t3, bnd2_s, if_neg (show ¬ (1 : Int32) = 0 by decide), show f_X12_isThere ((0 : Int32), v.2) p (2 : Int32) = _ from t4, bnd1_s, if_neg (show ¬ (1 : Int32) = 0 by decide), e]
    obtain ⟨g, hB⟩ := t2.bt
    exact holds_loop (n := n) (c := c) (g := g) (F := v.2.1) (by have := hSV.2.2.1; omega) 3 FU FU 0 0 (v0.1, v0.2.1, v0.2.2.1, v0.2.2.2.1, u, v0.2.2.2.2.2.1, v0.2.2.2.2.2.2.1, v0.2.2.2.2.2.2.2) (0, v.2) (by omega) (by decide) (by decide) hSV.1 f0 rfl hB
theorem fst_max (P Q : Nat → Bool) : ∀ (m a d : Nat), d = a + m → (∀ k, a ≤ k → P k = true → P (k + 1) = true) → (∀ k, a ≤ k → Q k = true → Q (k + 1) = true) → fstk (fun k => P k && Q k) d a m = max (fstk P d a m) (fstk Q d a m)
  | 0, a, d, hd, _, _ => (Nat.max_self d).symm
  | m + 1, a, d, hd, hP, hQ => by
    have ih := fst_max P Q m (a + 1) d (by omega) (fun k hk => hP k (by omega)) (fun k hk => hQ k (by omega))
    have gP := (fst_no P (n := d) (a := a + 1) (d := m) (by omega)).1
    have gQ := (fst_no Q (n := d) (a := a + 1) (d := m) (by omega)).1
    have one : ∀ T : Nat → Bool, T (a + 1) = true → fstk T d (a + 1) m = a + 1 := by
      intro T hT
      cases m with
      | zero => show d = a + 1; omega
      | succ m => unfold fstk; rw [if_pos hT]
    show (if (P a && Q a) = true then a else fstk (fun k => P k && Q k) d (a + 1) m) = max (if P a = true then a else fstk P d (a + 1) m) (if Q a = true then a else fstk Q d (a + 1) m)
    rw [ih]
    by_cases hp : P a = true
    · by_cases hq : Q a = true
      · rw [if_pos (by rw [hp, hq]; rfl), if_pos hp, if_pos hq, Nat.max_self]
      · rw [if_neg (by rw [hp]; exact hq), if_pos hp, if_neg hq, one P (hP a (Nat.le_refl _) hp)]
        omega
    · by_cases hq : Q a = true
      · rw [if_neg (by rw [hq, Bool.and_true]; exact hp), if_neg hp, if_pos hq, one Q (hQ a (Nat.le_refl _) hq)]
        omega
      · rw [if_neg (by rw [Bool.and_eq_true]; exact fun h => hp h.1), if_neg hp, if_neg hq]
theorem x_least_c {p a b : Nat} (hp : p < 3) (ha : a ≤ 400) (hb : b ≤ 400) {v0 : V11} (e1 : v0.2.2.2.2.1.2.2.2.1 = nI a) (e2 : v0.2.2.2.2.1.2.2.2.2 = nI b) : ∀ (d fu k : Nat), k + d = 16 → d < fu → fb_X11_leastChance_11 fu v0 (nI p) (nI k) = some (nI (fstk (fun c => hd_ p a b c) 16 k d), v0) := by
  intro d
  induction d with
  | zero =>
    intro fu k hk hf
    obtain ⟨fu, rfl⟩ : ∃ m, fu = m + 1 := ⟨fu - 1, by omega⟩
    have hk : k = 16 := by omega
    subst hk
    show fl_X11_leastChance_11 (fb_X11_leastChance_11 fu) _ _ _ = _
    unfold fl_X11_leastChance_11
    rw [if_pos (by decide)]
    rfl
  | succ d ih =>
    intro fu k hk hf
    obtain ⟨fu, rfl⟩ : ∃ m, fu = m + 1 := ⟨fu - 1, by omega⟩
    show fl_X11_leastChance_11 (fb_X11_leastChance_11 fu) _ _ _ = some (nI (if hd_ p a b k = true then k else fstk (fun c => hd_ p a b c) 16 (k + 1) d), v0)
    unfold fl_X11_leastChance_11
    rw [if_neg (show ¬ (16 : Int32) ≤ nI k from nI_ge (b := 16) (by omega) (by decide)), x_held hp ha hb (by omega) e1 e2, bnd1_s]
    by_cases h : hd_ p a b k = true
    · rw [if_neg (by rw [if_pos h]; decide), if_pos h]
    · rw [if_pos (by rw [if_neg h]), if_neg h, bnd_e, nI_1]
      exact ih fu (k + 1) (by omega) (by omega)
theorem m_claim {F : Nat → Int32} {n a0 b0 a2 b2 : Nat} (x1 : a0 ≤ 400) (x2 : b0 ≤ 400) (x3 : a2 ≤ 400) (x4 : b2 ≤ 400) (h0 : ∀ w : V12, w.2.1 = F → f_X12_laysBound w (nI 0) (nI n) = some (sB w (lN a0) (lN b0))) (h2 : ∀ w : V12, w.2.1 = F → f_X12_laysBound w (nI 2) (nI n) = some (sB w (lN a2) (lN b2))) : ∀ (d fu k : Nat) (v : V12), k + d = 16 → d < fu → v.2.1 = F → ∃ v2 : V12, fb_X12_claim_19 fu v (nI n) (nI k) = some (nI (fstk (fun c => hd_ 0 a0 b0 c && hd_ 2 a2 b2 c) 16 k d), v2) ∧ SM v v2 := by
  intro d
  induction d with
  | zero =>
    intro fu k v hk hf hv
    obtain ⟨fu, rfl⟩ : ∃ m, fu = m + 1 := ⟨fu - 1, by omega⟩
    have hk : k = 16 := by omega
    subst hk
    refine ⟨v, ?_, rfl, rfl, rfl⟩
    show fl_X12_claim_19 (fb_X12_claim_19 fu) _ _ _ = _
    unfold fl_X12_claim_19
    rw [if_pos (by decide)]
    rfl
  | succ d ih =>
    intro fu k v hk hf hv
    obtain ⟨fu, rfl⟩ : ∃ m, fu = m + 1 := ⟨fu - 1, by omega⟩
    have k0 := m_held (v := v) (n := n) (p := 0) (c := k) (by decide) x1 x2 (by omega) (h0 v hv)
    have k2 := m_held (v := sB v (lN a0) (lN b0)) (n := n) (p := 2) (c := k) (by decide) x3 x4 (by omega) (h2 (sB v (lN a0) (lN b0)) hv)
    have hM : fb_X12_claim_19 (fu + 1) v (nI n) (nI k) = (if hd_ 0 a0 b0 k = true then (if hd_ 2 a2 b2 k = true then some (nI k, sB (sB v (lN a0) (lN b0)) (lN a2) (lN b2)) else fb_X12_claim_19 fu (sB (sB v (lN a0) (lN b0)) (lN a2) (lN b2)) (nI n) (nI (k + 1))) else fb_X12_claim_19 fu (sB v (lN a0) (lN b0)) (nI n) (nI (k + 1))) := by
      show fl_X12_claim_19 (fb_X12_claim_19 fu) _ _ _ = _
      unfold fl_X12_claim_19
      rw [if_neg (show ¬ (16 : Int32) ≤ nI k from nI_ge (b := 16) (by omega) (by decide)), show f_X12_isHeld v (0 : Int32) (nI n) (nI k) = _ from k0, bnd2_s]
      by_cases h : hd_ 0 a0 b0 k = true
      · rw [if_neg (by rw [if_pos h]; decide), if_pos h, show f_X12_isHeld (sB v (lN a0) (lN b0)) (2 : Int32) (nI n) (nI k) = _ from k2, bnd2_s]
        by_cases h' : hd_ 2 a2 b2 k = true
        · rw [if_neg (by rw [if_pos h']; decide), if_pos h']
        · rw [if_pos (by rw [if_neg h']), if_neg h', bnd_e, nI_1]
      · rw [if_pos (by rw [if_neg h]), if_neg h, bnd_e, nI_1]
    show ∃ v2 : V12, fb_X12_claim_19 (fu + 1) v (nI n) (nI k) = some (nI (if (hd_ 0 a0 b0 k && hd_ 2 a2 b2 k) = true then k else fstk (fun c => hd_ 0 a0 b0 c && hd_ 2 a2 b2 c) 16 (k + 1) d), v2) ∧ SM v v2
    rw [hM]
    by_cases h : hd_ 0 a0 b0 k = true
    · by_cases h' : hd_ 2 a2 b2 k = true
      · rw [if_pos h, if_pos h', if_pos (by rw [h, h']; rfl)]
        exact ⟨_, rfl, rfl, rfl, rfl⟩
      · rw [if_pos h, if_neg h', if_neg (by rw [Bool.and_eq_true]; exact fun q => h' q.2)]
        exact ih fu (k + 1) (sB (sB v (lN a0) (lN b0)) (lN a2) (lN b2)) (by omega) (by omega) hv
    · rw [if_neg h, if_neg (by rw [Bool.and_eq_true]; exact fun q => h q.1)]
      exact ih fu (k + 1) (sB v (lN a0) (lN b0)) (by omega) (by omega) hv
theorem hd_mono {p a b : Nat} (hp : p ≠ 1) (k : Nat) (h : hd_ p a b k = true) : hd_ p a b (k + 1) = true := by
  unfold hd_ at h ⊢
  rw [if_neg hp, decide_eq_true_eq] at h ⊢
  rw [Nat.mul_succ]
  omega
theorem q_claim {v0 : V11} {v : V12} (hQ : RQ 300 301 400 v0.1.2.2.2.2.2.1 v.2.1) (p : Int32) : ∃ (r : Int32) (u : V11) (v2 : V12), u.1 = v0.1 ∧ f_X11_claim v0 p = some (r, u) ∧ f_X12_claim v p = some (r, v2) ∧ SM v v2 := by
  unfold f_X11_claim f_X12_claim
  rcases there_rel (v := (0, v.2)) hQ p (m := 2) (Or.inr rfl) with ⟨t1, t2⟩ | ⟨n, H, u, e, t1, t2, t3, t4⟩
  · rw [show f_X11_loadLatest v0 p (2 : Int32) = _ from t1, bnd2_s, if_pos rfl, show f_X12_isThere ((0 : Int32), v.2) p (2 : Int32) = _ from t2, bnd1_s, if_pos rfl]
    exact ⟨-1, (v0.1, v0.2.1, v0.2.2.1, v0.2.2.2.1, v0.2.2.2.2.1, v0.2.2.2.2.2.1, v0.2.2.2.2.2.2.1, v0.2.2.2.2.2.2.2), (0, v.2), rfl, rfl, rfl, rfl, rfl, rfl⟩
  · rw [show f_X11_loadLatest v0 p (2 : Int32) = _ from t3, bnd2_s, if_neg (show ¬ (1 : Int32) = 0 by decide), show f_X12_isThere ((0 : Int32), v.2) p (2 : Int32) = _ from t4, bnd1_s, if_neg (show ¬ (1 : Int32) = 0 by decide), e]
    obtain ⟨g, hB⟩ := t2.bt
    obtain ⟨a0, b0, x1, x2, x3, x4⟩ := measure_all hB (v := (0, v.2)) rfl (p := 0) (by decide)
    have hB2 : BT (u.1, u.2.1, u.2.2.1, nI a0, nI b0) v.2.1 n g := hB
    obtain ⟨a2, b2, y1, y2, y3, y4⟩ := measure_all hB2 (v := (0, v.2)) rfl (p := 2) (by decide)
    have c0 := x_least_c (p := 0) (by decide) x1 x2 (v0 := (v0.1, v0.2.1, v0.2.2.1, v0.2.2.2.1, (u.1, u.2.1, u.2.2.1, nI a0, nI b0), v0.2.2.2.2.2.1, v0.2.2.2.2.2.2.1, v0.2.2.2.2.2.2.2)) rfl rfl 8 FU 8 (by omega) (by decide)
    have c2 := x_least_c (p := 2) (by decide) y1 y2 (v0 := (v0.1, v0.2.1, v0.2.2.1, v0.2.2.2.1, (u.1, u.2.1, u.2.2.1, nI a2, nI b2), v0.2.2.2.2.2.1, v0.2.2.2.2.2.2.1, v0.2.2.2.2.2.2.2)) rfl rfl 8 FU 8 (by omega) (by decide)
    obtain ⟨v2, m1, m2⟩ := m_claim x1 x2 y1 y2 x4 y4 8 FU 8 (0, v.2) (by omega) (by decide) rfl
    have l0 := (fst_no (fun c => hd_ 0 a0 b0 c) (n := 16) (a := 8) (d := 8) rfl).2.1
    have l2 := (fst_no (fun c => hd_ 2 a2 b2 c) (n := 16) (a := 8) (d := 8) rfl).2.1
    refine ⟨nI (max (fstk (fun c => hd_ 0 a0 b0 c) 16 8 8) (fstk (fun c => hd_ 2 a2 b2 c) 16 8 8)), (v0.1, v0.2.1, v0.2.2.1, v0.2.2.2.1, (u.1, u.2.1, u.2.2.1, nI a2, nI b2), v0.2.2.2.2.2.1, v0.2.2.2.2.2.2.1, v0.2.2.2.2.2.2.2), v2, rfl, ?_, ?_, m2⟩
    · unfold f_X11_leastChance
      dsimp only
      rw [show f_X0_measure u (0 : Int32) = _ from x3, bnd1_s, show fb_X11_leastChance_11 FU (v0.1, v0.2.1, v0.2.2.1, v0.2.2.2.1, (u.1, u.2.1, u.2.2.1, nI a0, nI b0), v0.2.2.2.2.2.1, v0.2.2.2.2.2.2.1, v0.2.2.2.2.2.2.2) (0 : Int32) (8 : Int32) = _ from c0, bnd2_s]
      dsimp only
      rw [show f_X0_measure (u.1, u.2.1, u.2.2.1, nI a0, nI b0) (2 : Int32) = _ from y3, bnd1_s]
      dsimp only
      rw [show fb_X11_leastChance_11 FU (v0.1, v0.2.1, v0.2.2.1, v0.2.2.2.1, (u.1, u.2.1, u.2.2.1, nI a2, nI b2), v0.2.2.2.2.2.1, v0.2.2.2.2.2.2.1, v0.2.2.2.2.2.2.2) (2 : Int32) (8 : Int32) = _ from c2, bnd2_s, mx_j (by omega) (by omega), bnd_e]
    · rw [show fb_X12_claim_19 FU (0, v.2) (nI n) (8 : Int32) = _ from m1, fst_max _ _ 8 8 16 rfl (fun k _ h => hd_mono (by decide) k h) (fun k _ h => hd_mono (by decide) k h)]
end HBS
