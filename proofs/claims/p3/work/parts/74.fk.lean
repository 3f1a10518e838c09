section FK
/-- no test fails -/
def nf_ (l : Int32 × Int32 × Int32) (W : Int32) (g : Nat → Int32) : Nat → Nat → V1 → Bool
  | 0, _, _ => true
  | d + 1, k, c => decide (fl_ l (hr_ c (g k) W) = 0) && nf_ l W g d (k + 1) (hr_ c (g k) W)
theorem rp_mono (l : Int32 × Int32 × Int32) (W : Int32) (g : Nat → Int32) : ∀ (d k : Nat) (c : V1) (m : Nat), ∃ m2 : Nat, m ≤ m2 ∧ m2 ≤ m + d ∧ rp_ l W g d k c (nI m) = nI m2
  | 0, k, c, m => ⟨m, Nat.le_refl _, Nat.le_refl _, rfl⟩
  | d + 1, k, c, m => by
    show ∃ m2 : Nat, m ≤ m2 ∧ m2 ≤ m + (d + 1) ∧ (if fl_ l (hr_ c (g k) W) = 0 then rp_ l W g d (k + 1) (hr_ c (g k) W) (nI m) else rp_ l W g d (k + 1) (0, 0, 0, 0, 0, 0) (nI m + 1)) = nI m2
    by_cases h : fl_ l (hr_ c (g k) W) = 0
    · obtain ⟨m2, a, b, e⟩ := rp_mono l W g d (k + 1) (hr_ c (g k) W) m
      exact ⟨m2, a, by omega, by rw [if_pos h]; exact e⟩
    · obtain ⟨m2, a, b, e⟩ := rp_mono l W g d (k + 1) (0, 0, 0, 0, 0, 0) (m + 1)
      exact ⟨m2, by omega, by omega, by rw [if_neg h, nI_1]; exact e⟩
theorem rp_nf (l : Int32 × Int32 × Int32) (W : Int32) (g : Nat → Int32) : ∀ (d k : Nat) (c : V1), d < 2 ^ 30 → (rp_ l W g d k c 0 = 0 ↔ nf_ l W g d k c = true)
  | 0, k, c, _ => ⟨fun _ => rfl, fun _ => rfl⟩
  | d + 1, k, c, hd => by
    show (if fl_ l (hr_ c (g k) W) = 0 then rp_ l W g d (k + 1) (hr_ c (g k) W) 0 else rp_ l W g d (k + 1) (0, 0, 0, 0, 0, 0) (0 + 1)) = 0 ↔ (decide (fl_ l (hr_ c (g k) W) = 0) && nf_ l W g d (k + 1) (hr_ c (g k) W)) = true
    by_cases h : fl_ l (hr_ c (g k) W) = 0
    · rw [if_pos h, decide_eq_true h, Bool.true_and]
      exact rp_nf l W g d (k + 1) (hr_ c (g k) W) (by omega)
    · rw [if_neg h, decide_eq_false h, Bool.false_and]
      obtain ⟨m2, a, b, e⟩ := rp_mono l W g d (k + 1) (0, 0, 0, 0, 0, 0) 1
      rw [show (0 : Int32) + 1 = nI 1 from rfl, e]
      exact ⟨fun q => absurd ((nI_eq (b := 0) (by omega) (by decide)).mp q) (by omega), fun q => absurd q (by decide)⟩
theorem rp_congr (l : Int32 × Int32 × Int32) (W : Int32) {g g2 : Nat → Int32} : ∀ (d k : Nat) (c : V1) (x : Int32), (∀ j, k ≤ j → j < k + d → g j = g2 j) → rp_ l W g d k c x = rp_ l W g2 d k c x
  | 0, k, c, x, _ => rfl
  | d + 1, k, c, x, h => by
    show (if fl_ l (hr_ c (g k) W) = 0 then rp_ l W g d (k + 1) (hr_ c (g k) W) x else rp_ l W g d (k + 1) (0, 0, 0, 0, 0, 0) (x + 1)) = (if fl_ l (hr_ c (g2 k) W) = 0 then rp_ l W g2 d (k + 1) (hr_ c (g2 k) W) x else rp_ l W g2 d (k + 1) (0, 0, 0, 0, 0, 0) (x + 1))
    rw [h k (Nat.le_refl _) (by omega), rp_congr l W d (k + 1) (hr_ c (g2 k) W) x (fun j h1 h2 => h j (by omega) (by omega)), rp_congr l W d (k + 1) (0, 0, 0, 0, 0, 0) (x + 1) (fun j h1 h2 => h j (by omega) (by omega))]
def ra_ (p c : V1) : V1 := (jmax p.1 c.1, p.2.1, p.2.2.1, p.2.2.2.1, jmax p.2.2.2.2.1 c.2.2.2.2.1, jmax p.2.2.2.2.2 c.2.2.2.2.2)
def pk_ (W : Int32) (g : Nat → Int32) : Nat → Nat → V1 → V1 → V1
  | 0, _, _, p => p
  | d + 1, k, c, p => pk_ W g d (k + 1) (hr_ c (g k) W) (ra_ p (hr_ c (g k) W))
theorem jmax_lt (a b l : Int32) : jmax a b < l ↔ a < l ∧ b < l := by
  unfold jmax
  by_cases h : a < b
  · rw [if_pos h]
    rw [Int32.lt_iff_toInt_lt] at h
    rw [Int32.lt_iff_toInt_lt, Int32.lt_iff_toInt_lt]
    constructor
    · intro q; exact ⟨by omega, q⟩
    · intro q; exact q.2
  · rw [if_neg h]
    rw [Int32.lt_iff_toInt_lt] at h
    rw [Int32.lt_iff_toInt_lt, Int32.lt_iff_toInt_lt]
    constructor
    · intro q; exact ⟨q, by omega⟩
    · intro q; exact q.1
theorem fl_ra (l : Int32 × Int32 × Int32) (p c : V1) : fl_ l (ra_ p c) = 0 ↔ (fl_ l p = 0 ∧ fl_ l c = 0) := by
  rw [fl_0, fl_0, fl_0]
  show (jmax p.1 c.1 < l.1 ∧ jmax p.2.2.2.2.1 c.2.2.2.2.1 < l.2.1 ∧ jmax p.2.2.2.2.2 c.2.2.2.2.2 < l.2.2) ↔ _
  rw [jmax_lt, jmax_lt, jmax_lt]
  constructor
  · intro h; exact ⟨⟨h.1.1, h.2.1.1, h.2.2.1⟩, h.1.2, h.2.1.2, h.2.2.2⟩
  · intro h; exact ⟨⟨h.1.1, h.2.1⟩, ⟨h.1.2.1, h.2.2.1⟩, h.1.2.2, h.2.2.2⟩
theorem pk_nf (l : Int32 × Int32 × Int32) (W : Int32) (g : Nat → Int32) : ∀ (d k : Nat) (c p : V1), fl_ l (pk_ W g d k c p) = 0 ↔ (fl_ l p = 0 ∧ nf_ l W g d k c = true)
  | 0, k, c, p => ⟨fun h => ⟨h, rfl⟩, fun h => h.1⟩
  | d + 1, k, c, p => by
    show fl_ l (pk_ W g d (k + 1) (hr_ c (g k) W) (ra_ p (hr_ c (g k) W))) = 0 ↔ (fl_ l p = 0 ∧ (decide (fl_ l (hr_ c (g k) W) = 0) && nf_ l W g d (k + 1) (hr_ c (g k) W)) = true)
    rw [pk_nf l W g d (k + 1) (hr_ c (g k) W) (ra_ p (hr_ c (g k) W)), fl_ra, Bool.and_eq_true, decide_eq_true_eq]
    constructor
    · intro h; exact ⟨h.1.1, h.1.2, h.2⟩
    · intro h; exact ⟨⟨h.1, h.2.1⟩, h.2.2⟩
theorem x_peaksE {w : V10} {H : Nat} {g : Nat → Int32} (hH : H ≤ 400) (hlen : w.2.2.2.2.2.1.2.2 = nI H) (hat : ∀ k, k < H → f_X4_bitAt w.2.2.2.2.2.1 (nI k) = some (g k)) : ∀ (d fu k : Nat) (v0 : V11), v0.1 = w → k + d = H → d < fu → ∃ u : V11, fb_X11_measurePeaks_16 fu v0 (nI k) = some u ∧ u.1 = w ∧ u.2.2.2.2.2.2.2 = pk_ (w.1.1 2) g d k v0.2.2.2.2.2.2.1 v0.2.2.2.2.2.2.2 := by
  intro d
  induction d with
  | zero =>
    intro fu k v0 hw hk hf
    obtain ⟨fu, rfl⟩ : ∃ m, fu = m + 1 := ⟨fu - 1, by omega⟩
    refine ⟨v0, ?_, hw, rfl⟩
    show fl_X11_measurePeaks_16 (fb_X11_measurePeaks_16 fu) _ _ = _
    unfold fl_X11_measurePeaks_16
    rw [hw, hlen, if_pos (nI_le (by omega) (by omega))]
  | succ d ih =>
    intro fu k v0 hw hk hf
    obtain ⟨fu, rfl⟩ : ∃ m, fu = m + 1 := ⟨fu - 1, by omega⟩
    show ∃ u : V11, fl_X11_measurePeaks_16 (fb_X11_measurePeaks_16 fu) v0 (nI k) = some u ∧ u.1 = w ∧ u.2.2.2.2.2.2.2 = pk_ (w.1.1 2) g d (k + 1) (hr_ v0.2.2.2.2.2.2.1 (g k) (w.1.1 2)) (ra_ v0.2.2.2.2.2.2.2 (hr_ v0.2.2.2.2.2.2.1 (g k) (w.1.1 2)))
    unfold fl_X11_measurePeaks_16 f_X1_raiseTo
    rw [hw, hlen, if_neg (nI_ge (by omega) (by omega)), hat k (by omega), bnd1_s, show f_X7_valueOf w.1 (2 : Int32) = f_X7_valueOf w.1 (nI 2) from rfl, val_nI _ (by decide), bnd1_s, hr_s, bnd1_s, bnd_e, bnd_e, bnd_e, bnd1_s, bnd_e, nI_1]
    exact ih fu (k + 1) (w, v0.2.1, v0.2.2.1, v0.2.2.2.1, v0.2.2.2.2.1, v0.2.2.2.2.2.1, hr_ v0.2.2.2.2.2.2.1 (g k) (w.1.1 2), ra_ v0.2.2.2.2.2.2.2 (hr_ v0.2.2.2.2.2.2.1 (g k) (w.1.1 2))) rfl (by omega) (by omega)
theorem x_passE {v0 : V11} {c lg W : Nat} (hW : v0.1.1.1 2 = nI W) (c1 : 8 ≤ c) (c2 : c ≤ 15) (l1 : 1 ≤ lg) (l2 : lg ≤ 40) (w1 : 4 ≤ W) (w2 : W ≤ 15) : ∃ u : V11, f_X11_peaksPass v0 (nI c) (nI lg) = some ((if fl_ (nI (lmR c lg), nI (lmP c lg W), nI (lmC lg W)) v0.2.2.2.2.2.2.2 = 0 then 1 else 0), u) ∧ u.1 = v0.1 ∧ u.2.2.2.2.2.2.2 = v0.2.2.2.2.2.2.2 := by
  unfold f_X11_peaksPass
  obtain ⟨T, tr, ht⟩ := x_lims v0.2.2.2.2.2.1 c1 c2 l1 l2 w1 w2
  rw [show f_X7_valueOf v0.1.1 (2 : Int32) = f_X7_valueOf v0.1.1 (nI 2) from rfl, val_nI _ (by decide), bnd1_s, hW, ht, bnd1_s, fl_s, bnd1_s]
  refine ⟨(v0.1, v0.2.1, v0.2.2.1, v0.2.2.2.1, v0.2.2.2.2.1, (T, tr, nI (lmR c lg), nI (lmP c lg W), nI (lmC lg W)), v0.2.2.2.2.2.2), ?_, rfl, rfl⟩
  by_cases h : fl_ (nI (lmR c lg), nI (lmP c lg W), nI (lmC lg W)) v0.2.2.2.2.2.2.2 = 0
  · rw [if_pos h, if_pos h]
  · rw [if_neg h, if_neg h]
/-- limits are never 0 -/
theorem lim_pos {c lg W : Nat} (w1 : 4 ≤ W) (w2 : W ≤ 15) : fl_ (nI (lmR c lg), nI (lmP c lg W), nI (lmC lg W)) (0, 0, 0, 0, 0, 0) = 0 := by
  rw [fl_0]
  have a := fst_no (fun k => decide (lg ≤ 4 * (k - 1)) && decide (c ^ (k - 1) ≤ 2 ^ (4 * (k - 1) - lg))) (n := 16) (a := 2) (d := 14) rfl
  have b := fst_no (fun k => rareb (TS c (W - 1) (k - 1)) (4 * (W - 1)) lg) (n := W + 1) (a := 2) (d := W - 1) (by omega)
  have e := fst_no (fun k => rareb (TS 8 (W - 1) k) (4 * (W - 1)) lg) (n := W) (a := 1) (d := W - 1) (by omega)
  have a' : 2 ≤ lmR c lg ∧ lmR c lg ≤ 16 := ⟨a.1, a.2.1⟩
  have b' : 2 ≤ lmP c lg W ∧ lmP c lg W ≤ W + 1 := ⟨b.1, b.2.1⟩
  have e' : 1 ≤ lmC lg W ∧ lmC lg W ≤ W := ⟨e.1, e.2.1⟩
  exact ⟨nI_lt (a := 0) (by omega) (by omega), nI_lt (a := 0) (by omega) (by omega), nI_lt (a := 0) (by omega) (by omega)⟩
theorem fit_key {c lg W H : Nat} (g : Nat → Int32) (hH : H ≤ 400) (w1 : 4 ≤ W) (w2 : W ≤ 15) : rp_ (nI (lmR c lg), nI (lmP c lg W), nI (lmC lg W)) (nI W) g H 0 (0, 0, 0, 0, 0, 0) 0 = 0 ↔ fl_ (nI (lmR c lg), nI (lmP c lg W), nI (lmC lg W)) (pk_ (nI W) g H 0 (0, 0, 0, 0, 0, 0) (0, 0, 0, 0, 0, 0)) = 0 := by
  rw [rp_nf _ _ _ _ _ _ (by omega), pk_nf]
  exact ⟨fun h => ⟨lim_pos w1 w2, h⟩, fun h => h.2⟩
theorem fit_loop {B : Nat} {w : V10} (hB : B + 400 < 2 ^ 30) {W lg H : Nat} {g : Nat → Int32} (hW : w.1.1 2 = nI W) (hl : w.1.1 1 = nI lg) (l1 : 1 ≤ lg) (l2 : lg ≤ 40) (w1 : 4 ≤ W) (w2 : W ≤ 15) (hH : w.2.2.2.2.2.1.2.2 = nI H) (hH4 : H ≤ 400) : ∀ (d f1 f2 k : Nat) (v0 : V11) (v : V12), v0.1 = w → v0.2.2.2.2.2.2.2 = pk_ (nI W) g H 0 (0, 0, 0, 0, 0, 0) (0, 0, 0, 0, 0, 0) → R B w v.2.1 → (∀ j, j < H → v.2.1 (301 + j) = g j) → k + d = 16 → 8 ≤ k → d < f1 → d < f2 → ∃ (r : Int32) (u : V11) (v2 : V12), fb_X11_fit_10 f1 v0 (nI k) = some (r, u) ∧ u.1 = w ∧ fb_X12_fit_8 f2 v (nI k) = some (r, v2) ∧ SA v v2 := by
  intro d
  induction d with
  | zero =>
    intro f1 f2 k v0 v hw hp hR hg hk h8 hf1 hf2
    obtain ⟨f1, rfl⟩ : ∃ m, f1 = m + 1 := ⟨f1 - 1, by omega⟩
    obtain ⟨f2, rfl⟩ : ∃ m, f2 = m + 1 := ⟨f2 - 1, by omega⟩
    have hk : k = 16 := by omega
    subst hk
    refine ⟨-1, v0, v, ?_, hw, ?_, fun _ _ => rfl, rfl, rfl⟩
    · show fl_X11_fit_10 (fb_X11_fit_10 f1) _ _ = _
      unfold fl_X11_fit_10
      rw [chk_in (show vp_in (0 : Int32) 9 by unfold vp_in; decide), if_pos (by decide)]
    · show fl_X12_fit_8 (fb_X12_fit_8 f2) _ _ = _
      unfold fl_X12_fit_8
      rw [if_pos (by decide)]
  | succ d ih =>
    intro f1 f2 k v0 v hw hp hR hg hk h8 hf1 hf2
    obtain ⟨f1, rfl⟩ : ∃ m, f1 = m + 1 := ⟨f1 - 1, by omega⟩
    obtain ⟨f2, rfl⟩ : ∃ m, f2 = m + 1 := ⟨f2 - 1, by omega⟩
    show ∃ (r : Int32) (u : V11) (v2 : V12), fl_X11_fit_10 (fb_X11_fit_10 f1) v0 (nI k) = some (r, u) ∧ u.1 = w ∧ fl_X12_fit_8 (fb_X12_fit_8 f2) v (nI k) = some (r, v2) ∧ SA v v2
    unfold fl_X11_fit_10 fl_X12_fit_8
    have hR0 := hR
    obtain ⟨-, -, -, -, -, -, hS, -⟩ := hR0
    have f1' : v.2.1 1 = nI lg := (hS.1 1 (by decide)).trans hl
    obtain ⟨u, u1, u2, u3⟩ := x_passE (v0 := v0) (c := k) (lg := lg) (by rw [hw]; exact hW) h8 (by omega) l1 l2 w1 w2
    obtain ⟨v2, a1, a2⟩ := alarmsE hR hB (c := k) (lg := lg) h8 (by omega) l1 l2 hW w2 hH hH4
    rw [rp_congr _ _ H 0 _ _ (fun j _ hj => hg j (by omega))] at a1
    rw [hp] at u1
    have key := fit_key (c := k) (lg := lg) (W := W) g hH4 w1 w2
    rw [chk_in (show vp_in (0 : Int32) 9 by unfold vp_in; decide), if_neg (show ¬ stM ((0 : Int32)).toNatClampNeg < nI k from nI_nlt (a := 15) (by omega) (by decide)), show f_X7_valueOf v0.1.1 (1 : Int32) = f_X7_valueOf v0.1.1 (nI 1) from rfl, val_nI _ (by decide), bnd1_s, show v0.1.1.1 1 = nI lg by rw [hw]; exact hl, u1, bnd2_s, if_neg (show ¬ (16 : Int32) ≤ nI k from nI_ge (b := 16) (by omega) (by decide)), chk_in (show vp_in (1 : Int32) 4725 by unfold vp_in; decide), show ((1 : Int32)).toNatClampNeg = 1 from rfl, f1', a1, bnd2_s]
    by_cases h : fl_ (nI (lmR k lg), nI (lmP k lg W), nI (lmC lg W)) (pk_ (nI W) g H 0 (0, 0, 0, 0, 0, 0) (0, 0, 0, 0, 0, 0)) = 0
    · rw [if_neg (show ¬ (if fl_ (nI (lmR k lg), nI (lmP k lg W), nI (lmC lg W)) (pk_ (nI W) g H 0 (0, 0, 0, 0, 0, 0) (0, 0, 0, 0, 0, 0)) = 0 then (1 : Int32) else 0) = 0 by rw [if_pos h]; decide), if_pos (key.mpr h)]
      exact ⟨nI k, (u.1, v0.2.1, v0.2.2.1, v0.2.2.2.1, v0.2.2.2.2.1, u.2.2.2.2.2.1, v0.2.2.2.2.2.2.1, u.2.2.2.2.2.2.2), v2, rfl, u2.trans hw, rfl, a2⟩
    · rw [if_pos (show (if fl_ (nI (lmR k lg), nI (lmP k lg W), nI (lmC lg W)) (pk_ (nI W) g H 0 (0, 0, 0, 0, 0, 0) (0, 0, 0, 0, 0, 0)) = 0 then (1 : Int32) else 0) = 0 by rw [if_neg h]), if_neg (fun q => h (key.mp q)), bnd_e, bnd_e, nI_1]
      obtain ⟨r, u', v3, i1, i2, i3, i4⟩ := ih f1 f2 (k + 1) (u.1, v0.2.1, v0.2.2.1, v0.2.2.2.1, v0.2.2.2.2.1, u.2.2.2.2.2.1, v0.2.2.2.2.2.2.1, u.2.2.2.2.2.2.2) v2 (u2.trans hw) (u3.trans hp) (hR.frame (fun j hj => a2.1 j (by omega))) (fun j hj => (a2.1 (301 + j) (by omega)).trans (hg j hj)) (by omega) (by omega) (by omega) (by omega)
      exact ⟨r, u', v3, i1, i2, i3, a2.trans i4⟩
theorem keen_loop {B : Nat} {w : V10} (hB : B + 400 < 2 ^ 30) {W c H : Nat} {g : Nat → Int32} (hW : w.1.1 2 = nI W) (hc : w.1.1 0 = nI c) (c1 : 8 ≤ c) (c2 : c ≤ 15) (w1 : 4 ≤ W) (w2 : W ≤ 15) (hH : w.2.2.2.2.2.1.2.2 = nI H) (hH4 : H ≤ 400) : ∀ (d f1 f2 k : Nat) (v0 : V11) (v : V12), v0.1 = w → v0.2.2.2.2.2.2.2 = pk_ (nI W) g H 0 (0, 0, 0, 0, 0, 0) (0, 0, 0, 0, 0, 0) → R B w v.2.1 → (∀ j, j < H → v.2.1 (301 + j) = g j) → k + d = 41 → 1 ≤ k → d < f1 → d < f2 → ∃ (r : Int32) (u : V11) (v2 : V12), fb_X11_keen_10 f1 v0 (nI k) = some (r, u) ∧ u.1 = w ∧ fb_X12_keen_7 f2 v (nI k) = some (r, v2) ∧ SA v v2 := by
  intro d
  induction d with
  | zero =>
    intro f1 f2 k v0 v hw hp hR hg hk h8 hf1 hf2
    obtain ⟨f1, rfl⟩ : ∃ m, f1 = m + 1 := ⟨f1 - 1, by omega⟩
    obtain ⟨f2, rfl⟩ : ∃ m, f2 = m + 1 := ⟨f2 - 1, by omega⟩
    have hk : k = 41 := by omega
    subst hk
    refine ⟨-1, v0, v, ?_, hw, ?_, fun _ _ => rfl, rfl, rfl⟩
    · show fl_X11_keen_10 (fb_X11_keen_10 f1) _ _ = _
      unfold fl_X11_keen_10
      rw [chk_in (show vp_in (1 : Int32) 9 by unfold vp_in; decide), if_pos (by decide)]
    · show fl_X12_keen_7 (fb_X12_keen_7 f2) _ _ = _
      unfold fl_X12_keen_7
      rw [if_pos (by decide)]
  | succ d ih =>
    intro f1 f2 k v0 v hw hp hR hg hk h8 hf1 hf2
    obtain ⟨f1, rfl⟩ : ∃ m, f1 = m + 1 := ⟨f1 - 1, by omega⟩
    obtain ⟨f2, rfl⟩ : ∃ m, f2 = m + 1 := ⟨f2 - 1, by omega⟩
    show ∃ (r : Int32) (u : V11) (v2 : V12), fl_X11_keen_10 (fb_X11_keen_10 f1) v0 (nI k) = some (r, u) ∧ u.1 = w ∧ fl_X12_keen_7 (fb_X12_keen_7 f2) v (nI k) = some (r, v2) ∧ SA v v2
    unfold fl_X11_keen_10 fl_X12_keen_7
    have hR0 := hR
    obtain ⟨-, -, -, -, -, -, hS, -⟩ := hR0
    have f0' : v.2.1 0 = nI c := (hS.1 0 (by decide)).trans hc
    obtain ⟨u, u1, u2, u3⟩ := x_passE (v0 := v0) (c := c) (lg := k) (by rw [hw]; exact hW) c1 c2 h8 (by omega) w1 w2
    obtain ⟨v2, a1, a2⟩ := alarmsE hR hB (c := c) (lg := k) c1 c2 h8 (by omega) hW w2 hH hH4
    rw [rp_congr _ _ H 0 _ _ (fun j _ hj => hg j (by omega))] at a1
    rw [hp] at u1
    have key := fit_key (c := c) (lg := k) (W := W) g hH4 w1 w2
    rw [chk_in (show vp_in (1 : Int32) 9 by unfold vp_in; decide), if_neg (show ¬ stM ((1 : Int32)).toNatClampNeg < nI k from nI_nlt (a := 40) (by omega) (by decide)), show f_X7_valueOf v0.1.1 (0 : Int32) = f_X7_valueOf v0.1.1 (nI 0) from rfl, val_nI _ (by decide), bnd1_s, show v0.1.1.1 0 = nI c by rw [hw]; exact hc, u1, bnd2_s, if_neg (show ¬ (40 : Int32) < nI k from nI_nlt (a := 40) (by omega) (by decide)), chk_in (show vp_in (0 : Int32) 4725 by unfold vp_in; decide), show ((0 : Int32)).toNatClampNeg = 0 from rfl, f0', a1, bnd2_s]
    by_cases h : fl_ (nI (lmR c k), nI (lmP c k W), nI (lmC k W)) (pk_ (nI W) g H 0 (0, 0, 0, 0, 0, 0) (0, 0, 0, 0, 0, 0)) = 0
    · rw [if_neg (show ¬ (if fl_ (nI (lmR c k), nI (lmP c k W), nI (lmC k W)) (pk_ (nI W) g H 0 (0, 0, 0, 0, 0, 0) (0, 0, 0, 0, 0, 0)) = 0 then (1 : Int32) else 0) = 0 by rw [if_pos h]; decide), if_pos (key.mpr h)]
      exact ⟨nI k, (u.1, v0.2.1, v0.2.2.1, v0.2.2.2.1, v0.2.2.2.2.1, u.2.2.2.2.2.1, v0.2.2.2.2.2.2.1, u.2.2.2.2.2.2.2), v2, rfl, u2.trans hw, rfl, a2⟩
    · rw [if_pos (show (if fl_ (nI (lmR c k), nI (lmP c k W), nI (lmC k W)) (pk_ (nI W) g H 0 (0, 0, 0, 0, 0, 0) (0, 0, 0, 0, 0, 0)) = 0 then (1 : Int32) else 0) = 0 by rw [if_neg h]), if_neg (fun q => h (key.mp q)), bnd_e, bnd_e, nI_1]
      obtain ⟨r, u', v3, i1, i2, i3, i4⟩ := ih f1 f2 (k + 1) (u.1, v0.2.1, v0.2.2.1, v0.2.2.2.1, v0.2.2.2.2.1, u.2.2.2.2.2.1, v0.2.2.2.2.2.2.1, u.2.2.2.2.2.2.2) v2 (u2.trans hw) (u3.trans hp) (hR.frame (fun j hj => a2.1 j (by omega))) (fun j hj => (a2.1 (301 + j) (by omega)).trans (hg j hj)) (by omega) (by omega) (by omega) (by omega)
      exact ⟨r, u', v3, i1, i2, i3, a2.trans i4⟩
theorem x_mpkE {B : Nat} {v0 : V11} {F : Nat → Int32} (hR : R B v0.1 F) : ∃ (H : Nat) (u : V11), H ≤ 400 ∧ v0.1.2.2.2.2.2.1.2.2 = nI H ∧ f_X11_measurePeaks v0 = some u ∧ u.1 = v0.1 ∧ u.2.2.2.2.2.2.2 = pk_ (v0.1.1.1 2) (fun k => F (301 + k)) H 0 (0, 0, 0, 0, 0, 0) (0, 0, 0, 0, 0, 0) := by
  obtain ⟨H, h1, h2, h3⟩ := hR.histE
  obtain ⟨u, u1, u2, u3⟩ := x_peaksE (w := v0.1) (g := fun k => F (301 + k)) h1 h2 h3 H FU 0 (v0.1, v0.2.1, v0.2.2.1, v0.2.2.2.1, v0.2.2.2.2.1, v0.2.2.2.2.2.1, (0, 0, 0, 0, 0, 0), (0, 0, 0, 0, 0, 0)) rfl (by omega) (by show H < 8589934592; omega)
  refine ⟨H, u, h1, h2, ?_, u2, u3⟩
  unfold f_X11_measurePeaks f_X1_clear
  rw [bnd1_s, bnd1_s]
  exact u1
theorem e_fit {B : Nat} {v0 : V11} {v : V12} (hR : R B v0.1 v.2.1) (hB : B + 400 < 2 ^ 30) : ∃ (r : Int32) (u : V11) (v2 : V12), u.1 = v0.1 ∧ f_X11_fit v0 = some (r, u) ∧ f_X12_fit v = some (r, v2) ∧ SA v v2 := by
  have hR0 := hR
  obtain ⟨c, lg, W, BL, o, hSV, hS, -⟩ := hR0
  obtain ⟨g0, g1, g2, g3, g4, g5, g6, g7, g8, -⟩ := hSV
  obtain ⟨H, u1, h1, h2, p1, p2, p3⟩ := x_mpkE hR
  rw [g6] at p3
  obtain ⟨r, u, v2, q1, q2, q3, q4⟩ := fit_loop (w := v0.1) (g := fun k => v.2.1 (301 + k)) hB g6 g3 g4 g5 g7 g8 h2 h1 8 FU FU 8 (u1.1, v0.2.1, v0.2.2.1, v0.2.2.2.1, v0.2.2.2.2.1, v0.2.2.2.2.2.1, u1.2.2.2.2.2.2) (0, v.2) p2 p3 hR (fun _ _ => rfl) (by omega) (by omega) (by decide) (by decide)
  refine ⟨r, u, v2, q2, ?_, q3, q4⟩
  unfold f_X11_fit
  rw [p1, bnd1_s, chk_in (show vp_in (0 : Int32) 9 by unfold vp_in; decide), bnd_e]
  exact q1
theorem e_keen {B : Nat} {v0 : V11} {v : V12} (hR : R B v0.1 v.2.1) (hB : B + 400 < 2 ^ 30) : ∃ (r : Int32) (u : V11) (v2 : V12), u.1 = v0.1 ∧ f_X11_keen v0 = some (r, u) ∧ f_X12_keen v = some (r, v2) ∧ SA v v2 := by
  have hR0 := hR
  obtain ⟨c, lg, W, BL, o, hSV, hS, -⟩ := hR0
  obtain ⟨g0, g1, g2, g3, g4, g5, g6, g7, g8, -⟩ := hSV
  obtain ⟨H, u1, h1, h2, p1, p2, p3⟩ := x_mpkE hR
  rw [g6] at p3
  obtain ⟨r, u, v2, q1, q2, q3, q4⟩ := keen_loop (w := v0.1) (g := fun k => v.2.1 (301 + k)) hB g6 g0 g1 g2 g7 g8 h2 h1 40 FU FU 1 (u1.1, v0.2.1, v0.2.2.1, v0.2.2.2.1, v0.2.2.2.2.1, v0.2.2.2.2.2.1, u1.2.2.2.2.2.2) (0, v.2) p2 p3 hR (fun _ _ => rfl) (by omega) (by omega) (by decide) (by decide)
  refine ⟨r, u, v2, q2, ?_, q3, q4⟩
  unfold f_X11_keen
  rw [p1, bnd1_s, chk_in (show vp_in (1 : Int32) 9 by unfold vp_in; decide), bnd_e]
  exact q1
end FK
