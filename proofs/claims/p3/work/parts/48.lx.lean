section LX
/-- the TEXT's bytes -/
def HB (t : V9) (n : Nat) (g : Nat → Nat) (tx : Nat → Int32) : Prop := n ≤ 300 ∧ t.2.1 = nI n ∧ ∀ k, k < n → 0 < g k ∧ g k < 256 ∧ t.1 k = nI (g k) ∧ tx k &&& 255 = nI (g k)
def lt_ (c : Nat) : Bool := decide (97 ≤ c) && decide (c ≤ 122)
def dg_ (c : Nat) : Bool := decide (48 ≤ c) && decide (c ≤ 57)
def bl_ (c : Nat) : Bool := decide (c = 32) || decide (c = 10)
theorem m_in2 {a b c : Nat} (ha : a < 2 ^ 31) (hb : b < 2 ^ 31) (hc : c < 2 ^ 31) : f_X12_in (nI c) (nI a) (nI b) = some (if (decide (a ≤ c) && decide (c ≤ b)) = true then 1 else 0) := by
  unfold f_X12_in
  by_cases h1 : c < a
  · rw [if_pos (nI_lt h1 ha), if_neg (by rw [Bool.and_eq_true, decide_eq_true_eq, decide_eq_true_eq]; omega)]
  · rw [if_neg (nI_nlt (by omega) hc)]
    by_cases h2 : b < c
    · rw [if_pos (nI_lt h2 hc), if_neg (by rw [Bool.and_eq_true, decide_eq_true_eq, decide_eq_true_eq]; omega)]
    · rw [if_neg (nI_nlt (by omega) hb), if_pos (by rw [Bool.and_eq_true, decide_eq_true_eq, decide_eq_true_eq]; omega)]
theorem x_letter {c : Nat} (hc : c < 2 ^ 31) : f_X5_isLetter (nI c) = some (if lt_ c = true then 1 else 0) := m_in2 (a := 97) (b := 122) (by decide) (by decide) hc
theorem x_digit {c : Nat} (hc : c < 2 ^ 31) : f_X5_isDigit (nI c) = some (if dg_ c = true then 1 else 0) := m_in2 (a := 48) (b := 57) (by decide) (by decide) hc
theorem x_blank {c : Nat} (hc : c < 2 ^ 31) : f_X5_isBlank (nI c) = some (if bl_ c = true then 1 else 0) := by
  unfold f_X5_isBlank bl_
  by_cases h1 : c = 32
  · rw [if_pos (by rw [h1]; rfl), if_pos (by rw [h1]; rfl)]
  · rw [if_neg (show ¬ nI c = (32 : Int32) from fun h => h1 ((nI_eq (b := 32) hc (by decide)).mp h))]
    by_cases h2 : c = 10
    · rw [if_pos (by rw [h2]; rfl), if_pos (by rw [h2]; rfl)]
    · rw [if_neg (show ¬ nI c = (10 : Int32) from fun h => h2 ((nI_eq (b := 10) hc (by decide)).mp h)), if_neg (by rw [Bool.or_eq_true, decide_eq_true_eq, decide_eq_true_eq]; omega)]
theorem x_at {t : V9} {n : Nat} {g : Nat → Nat} {tx : Nat → Int32} (hB : HB t n g tx) {p : Nat} (hp : p < n) : f_X9_byteAt t (nI p) = some (nI (g p)) := by
  obtain ⟨h1, h2, h3⟩ := hB
  unfold f_X9_byteAt
  rw [if_neg (nI_pos (by omega)), if_neg (by rw [h2]; exact nI_ge hp (by omega)), if_pos (show nI p < (300 : Int32) from nI_lt (b := 300) (by omega) (by decide)), chk_nI (by omega) (by decide), nI_clamp (by omega), (h3 p hp).2.2.1]
theorem x_atE {t : V9} {n : Nat} {g : Nat → Nat} {tx : Nat → Int32} (hB : HB t n g tx) : f_X9_byteAt t (nI n) = some (-1) := by
  obtain ⟨h1, h2, h3⟩ := hB
  unfold f_X9_byteAt
  rw [if_neg (nI_pos (by omega)), if_pos (by rw [h2]; exact nI_le (Nat.le_refl _) (by omega))]
theorem m_see {t : V9} {n : Nat} {g : Nat → Nat} {tx : Nat → Int32} (hB : HB t n g tx) {p : Nat} (hp : p < n) (v : V12) (e1 : v.2.2.1 = tx) (e2 : v.2.2.2.2.1 = nI p) (e3 : v.2.2.2.2.2.1 = nI n) : f_X12_see v = some (nI (g p)) := by
  obtain ⟨h1, h2, h3⟩ := hB
  unfold f_X12_see
  rw [e1, e2, e3, if_neg (nI_ge hp (by omega)), chk_nI (by omega) (by decide), nI_clamp (by omega), (h3 p hp).2.2.2]
theorem m_seeE {n : Nat} (hn : n ≤ 300) (v : V12) (e2 : v.2.2.2.2.1 = nI n) (e3 : v.2.2.2.2.2.1 = nI n) : f_X12_see v = some (-1) := by
  unfold f_X12_see
  rw [e2, e3, if_pos (nI_le (Nat.le_refl _) (by omega))]
theorem x_word {t : V9} {n : Nat} {g : Nat → Nat} {tx : Nat → Int32} (hB : HB t n g tx) (s : V7) (nm : Nat → Int32) (kd bg nu fa fq : Int32) : ∀ (d fu p : Nat), p + d = n → d < fu → fb_X5_passWord_0 t fu (s, nm, nI p, kd, bg, nu, fa, fq) = some (s, nm, nI (fstk (fun k => !lt_ (g k)) n p d), 1, bg, nu, fa, fq) := by
  intro d
  have hn : n ≤ 300 := hB.1
  induction d with
  | zero =>
    intro fu p hk hf
    obtain ⟨fu, rfl⟩ : ∃ m, fu = m + 1 := ⟨fu - 1, by omega⟩
    have hk : p = n := by omega
    subst hk
    unfold fb_X5_passWord_0 fl_X5_passWord_0
    rw [if_pos (by rw [hB.2.1]; exact nI_le (Nat.le_refl _) (by omega))]
    rfl
  | succ d ih =>
    intro fu p hk hf
    obtain ⟨fu, rfl⟩ : ∃ m, fu = m + 1 := ⟨fu - 1, by omega⟩
    unfold fb_X5_passWord_0 fl_X5_passWord_0 fstk
    dsimp only
    rw [if_neg (by rw [hB.2.1]; exact nI_ge (by omega) (by omega)), x_at hB (by omega), bnd1_s, x_letter (Nat.lt_trans (hB.2.2 p (by omega)).2.1 (by decide)), bnd1_s]
    by_cases hl : lt_ (g p) = true
    · rw [if_neg (by rw [if_pos hl]; decide), if_neg (by rw [hl]; decide), bnd_e, nI_1]
      exact ih fu (p + 1) (by omega) (by omega)
    · rw [if_pos (by rw [if_neg hl]), if_pos (by rw [Bool.not_eq_true] at hl; rw [hl]; rfl)]
/-- the letters' number -/
def wd (g : Nat → Nat) (b : Nat) : Nat → Int64
  | 0 => 0
  | k + 1 => jlshl (wd g b k) 8 ||| Int32.toInt64 (nI (g (b + k)))
theorem m_word {t : V9} {n : Nat} {g : Nat → Nat} {tx : Nat → Int32} (hB : HB t n g tx) {b : Nat} {ra : Int32} {al sv : Nat → Int32} {bg so va : Int32} {z : Int32 × Int32 × Int32 × (Nat → Int32) × Int32 × Int32 × Int32 × Int32 × Int32 × Int64 × Int64 × (Nat → Int32)} : ∀ (d fu p k : Nat), b + k = p → p + d = n → d < fu → fb_X12_token_74 fu (ra, al, tx, sv, nI p, nI n, bg, so, va, wd g b k, z) (nI k) = some (ra, al, tx, sv, nI (fstk (fun k => !lt_ (g k)) n p d), nI n, bg, 2, va, (if fstk (fun k => !lt_ (g k)) n p d - b ≤ 8 then wd g b (fstk (fun k => !lt_ (g k)) n p d - b) else 0), z) := by
  intro d
  have hn : n ≤ 300 := hB.1
  have fin : ∀ (p k : Nat), b + k = p → p ≤ n → (if nI k ≤ (8 : Int32) then some (ra, al, tx, sv, nI p, nI n, bg, (2 : Int32), va, wd g b k, z) else some (ra, al, tx, sv, nI p, nI n, bg, 2, va, (0 : Int64), z)) = some (ra, al, tx, sv, nI p, nI n, bg, 2, va, (if p - b ≤ 8 then wd g b (p - b) else 0), z) := by
    intro p k hk hp
    rw [show p - b = k by omega]
    by_cases h8 : k ≤ 8
    · rw [if_pos (show nI k ≤ (8 : Int32) from nI_le (b := 8) h8 (by decide)), if_pos h8]
    · rw [if_neg (show ¬ nI k ≤ (8 : Int32) from nI_ge (a := 8) (by omega) (by omega)), if_neg h8]
  induction d with
  | zero =>
    intro fu p k hb hk hf
    obtain ⟨fu, rfl⟩ : ∃ m, fu = m + 1 := ⟨fu - 1, by omega⟩
    have hk : p = n := by omega
    subst hk
    show fl_X12_token_74 (fb_X12_token_74 fu) _ _ = _
    unfold fl_X12_token_74
    rw [m_seeE hn _ rfl rfl, bnd1_s, show f_X12_in (-1) 97 122 = some 0 from rfl, bnd1_s, if_pos rfl]
    exact fin p k hb (Nat.le_refl _)
  | succ d ih =>
    intro fu p k hb hk hf
    obtain ⟨fu, rfl⟩ : ∃ m, fu = m + 1 := ⟨fu - 1, by omega⟩
    have hc : g p < 2 ^ 31 := Nat.lt_trans (hB.2.2 p (by omega)).2.1 (by decide)
    have hi := ih fu (p + 1) (k + 1) (by omega) (by omega) (by omega)
    show fl_X12_token_74 (fb_X12_token_74 fu) _ _ = _
    unfold fl_X12_token_74
    rw [m_see hB (p := p) (by omega) _ rfl rfl rfl, bnd1_s, show f_X12_in (nI (g p)) 97 122 = some (if lt_ (g p) = true then 1 else 0) from x_letter hc, bnd1_s]
    by_cases hl : lt_ (g p) = true
    · have e : fstk (fun k => !lt_ (g k)) n p (d + 1) = fstk (fun k => !lt_ (g k)) n (p + 1) d := by
        show (if (!lt_ (g p)) = true then p else _) = _
        rw [if_neg (by rw [hl]; decide)]
      rw [if_neg (by rw [if_pos hl]; decide), bnd1_s, bnd_e, bnd_e, bnd_e, e]
      dsimp only
      rw [nI_1, nI_1]
      refine Eq.trans ?_ hi
      show fb_X12_token_74 fu (ra, al, tx, sv, nI (p + 1), nI n, bg, so, va, jlshl (wd g b k) 8 ||| Int32.toInt64 (nI (g p)), z) (nI (k + 1)) = fb_X12_token_74 fu (ra, al, tx, sv, nI (p + 1), nI n, bg, so, va, jlshl (wd g b k) 8 ||| Int32.toInt64 (nI (g (b + k))), z) (nI (k + 1))
      rw [hb]
    · have e : fstk (fun k => !lt_ (g k)) n p (d + 1) = p := by
        show (if (!lt_ (g p)) = true then p else _) = _
        rw [if_pos (by rw [Bool.not_eq_true] at hl; rw [hl]; rfl)]
      rw [if_pos (by rw [if_neg hl]), e]
      exact fin p k hb (by omega)
/-- the digits' number, four of them -/
def vl (g : Nat → Nat) (b : Nat) : Nat → Nat
  | 0 => 0
  | k + 1 => if 4 ≤ k then vl g b k else vl g b k * 10 + (g (b + k) - 48)
theorem vl_lt (g : Nat → Nat) (b : Nat) : ∀ k, (∀ i, i < k → dg_ (g (b + i)) = true) → vl g b k < 10 ^ (min k 4)
  | 0, _ => by show 0 < 10 ^ 0; decide
  | k + 1, h => by
    have ih := vl_lt g b k (fun i hi => h i (by omega))
    have hd := h k (by omega)
    unfold dg_ at hd
    rw [Bool.and_eq_true, decide_eq_true_eq, decide_eq_true_eq] at hd
    show (if 4 ≤ k then vl g b k else vl g b k * 10 + (g (b + k) - 48)) < _
    by_cases h4 : 4 ≤ k
    · rw [if_pos h4, show min (k + 1) 4 = min k 4 by omega]; exact ih
    · rw [if_neg h4, show min (k + 1) 4 = k + 1 by omega, Nat.pow_succ]
      rw [show min k 4 = k by omega] at ih
      omega
theorem sub_nI2 {p b : Nat} (h : b ≤ p) : nI p - nI b = nI (p - b) := by
  have e : nI p = nI (p - b) + nI b := by rw [nI_add]; congr 1; omega
  rw [e, Int32.add_sub_cancel]
theorem dig_nI {m c : Nat} (hc : 48 ≤ c) : nI m * 10 + nI c - 48 = nI (m * 10 + (c - 48)) := by
  show nI m * nI 10 + nI c - nI 48 = _
  rw [pk_mul, nI_add, sub_nI2 (by omega)]
  congr 1; omega
theorem x_num {t : V9} {n : Nat} {g : Nat → Nat} {tx : Nat → Int32} (hB : HB t n g tx) {b : Nat} (s : V7) (nm : Nat → Int32) (kd fa fq : Int32) : ∀ (d fu p k : Nat), b + k = p → p + d = n → d < fu → ∃ q : Nat, q = fstk (fun k => !dg_ (g k)) n p d ∧ fb_X5_passNumber_5 t fu (s, nm, nI p, kd, nI b, nI (vl g b k), fa, fq) = some (s, nm, nI q, (if q - b ≤ 4 then 2 else 4), nI b, nI (vl g b (q - b)), fa, fq) := by
  intro d
  have hn : n ≤ 300 := hB.1
  have fin : ∀ (p k : Nat), b + k = p → p ≤ n → fc_X5_passNumber_79 t (s, nm, nI p, kd, nI b, nI (vl g b k), fa, fq) = some (s, nm, nI p, (if p - b ≤ 4 then 2 else 4), nI b, nI (vl g b (p - b)), fa, fq) := by
    intro p k hk hp
    unfold fc_X5_passNumber_79
    dsimp only
    rw [sub_nI2 (by omega), show p - b = k by omega]
    by_cases h8 : k ≤ 4
    · rw [if_neg (show ¬ (4 : Int32) < nI k from nI_nlt (a := 4) h8 (by decide)), if_pos h8]
    · rw [if_pos (show (4 : Int32) < nI k from nI_lt (a := 4) (by omega) (by omega)), if_neg h8]
  induction d with
  | zero =>
    intro fu p k hb hk hf
    obtain ⟨fu, rfl⟩ : ∃ m, fu = m + 1 := ⟨fu - 1, by omega⟩
    have hk : p = n := by omega
    subst hk
    refine ⟨p, rfl, ?_⟩
    show fl_X5_passNumber_5 t (fb_X5_passNumber_5 t fu) _ = _
    unfold fl_X5_passNumber_5
    rw [if_pos (by rw [hB.2.1]; exact nI_le (Nat.le_refl _) (by omega))]
    exact fin p k hb (Nat.le_refl _)
  | succ d ih =>
    intro fu p k hb hk hf
    obtain ⟨fu, rfl⟩ : ∃ m, fu = m + 1 := ⟨fu - 1, by omega⟩
    have hc : g p < 2 ^ 31 := Nat.lt_trans (hB.2.2 p (by omega)).2.1 (by decide)
    obtain ⟨q, hq, hi⟩ := ih fu (p + 1) (k + 1) (by omega) (by omega) (by omega)
    have hX : fb_X5_passNumber_5 t (fu + 1) (s, nm, nI p, kd, nI b, nI (vl g b k), fa, fq) = (if dg_ (g p) = true then fb_X5_passNumber_5 t fu (s, nm, nI (p + 1), kd, nI b, nI (vl g b (k + 1)), fa, fq) else fc_X5_passNumber_79 t (s, nm, nI p, kd, nI b, nI (vl g b k), fa, fq)) := by
      show fl_X5_passNumber_5 t (fb_X5_passNumber_5 t fu) _ = _
      unfold fl_X5_passNumber_5
      dsimp only
      rw [if_neg (by rw [hB.2.1]; exact nI_ge (by omega) (by omega)), x_at hB (p := p) (by omega), bnd1_s, x_digit hc, bnd1_s, sub_nI2 (by omega), show p - b = k by omega, bnd1_s, bnd_e, bnd_e, bnd_e, nI_1]
      by_cases hl : dg_ (g p) = true
      · rw [if_neg (by rw [if_pos hl]; decide), if_pos hl]
        have hd := hl
        unfold dg_ at hd
        rw [Bool.and_eq_true, decide_eq_true_eq, decide_eq_true_eq] at hd
        by_cases h4 : 4 ≤ k
        · rw [if_pos (show (4 : Int32) ≤ nI k from nI_le (a := 4) h4 (by omega)), show vl g b (k + 1) = vl g b k from if_pos h4]
        · rw [if_neg (show ¬ (4 : Int32) ≤ nI k from nI_ge (b := 4) (by omega) (by decide)), show vl g b (k + 1) = vl g b k * 10 + (g (b + k) - 48) from if_neg h4, hb, dig_nI hd.1]
      · rw [if_pos (by rw [if_neg hl]), if_neg hl]
    rw [hX]
    by_cases hl : dg_ (g p) = true
    · refine ⟨q, ?_, by rw [if_pos hl]; exact hi⟩
      show q = if (!dg_ (g p)) = true then p else _
      rw [if_neg (by rw [hl]; decide)]
      exact hq
    · refine ⟨p, ?_, by rw [if_neg hl]; exact fin p k hb (by omega)⟩
      show p = if (!dg_ (g p)) = true then p else _
      rw [if_pos (by rw [Bool.not_eq_true] at hl; rw [hl]; rfl)]
theorem m_num {t : V9} {n : Nat} {g : Nat → Nat} {tx : Nat → Int32} (hB : HB t n g tx) {b : Nat} {ra : Int32} {al sv : Nat → Int32} {bg so : Int32} {z : Int64 × Int32 × Int32 × Int32 × (Nat → Int32) × Int32 × Int32 × Int32 × Int32 × Int32 × Int64 × Int64 × (Nat → Int32)} : ∀ (d fu p k : Nat), b + k = p → p + d = n → d < fu → ∃ q : Nat, q = fstk (fun k => !dg_ (g k)) n p d ∧ fb_X12_token_163 fu (ra, al, tx, sv, nI p, nI n, bg, so, nI (vl g b k), z) (nI k) = some (ra, al, tx, sv, nI q, nI n, bg, (if q - b ≤ 4 then 3 else 1), nI (vl g b (q - b)), z) := by
  intro d
  have hn : n ≤ 300 := hB.1
  have fin : ∀ (p k : Nat), b + k = p → p ≤ n → (if nI k ≤ (4 : Int32) then some (ra, al, tx, sv, nI p, nI n, bg, (3 : Int32), nI (vl g b k), z) else some (ra, al, tx, sv, nI p, nI n, bg, (1 : Int32), nI (vl g b k), z)) = some (ra, al, tx, sv, nI p, nI n, bg, (if p - b ≤ 4 then (3 : Int32) else 1), nI (vl g b (p - b)), z) := by
    intro p k hk hp
    rw [show p - b = k by omega]
    by_cases h8 : k ≤ 4
    · rw [if_pos (show nI k ≤ (4 : Int32) from nI_le (b := 4) h8 (by decide)), if_pos h8]
    · rw [if_neg (show ¬ nI k ≤ (4 : Int32) from nI_ge (a := 4) (by omega) (by omega)), if_neg h8]
  induction d with
  | zero =>
    intro fu p k hb hk hf
    obtain ⟨fu, rfl⟩ : ∃ m, fu = m + 1 := ⟨fu - 1, by omega⟩
    have hk : p = n := by omega
    subst hk
    refine ⟨p, rfl, ?_⟩
    show fl_X12_token_163 (fb_X12_token_163 fu) _ _ = _
    unfold fl_X12_token_163
    rw [m_seeE hn _ rfl rfl, bnd1_s, show f_X12_in (-1) 48 57 = some 0 from rfl, bnd1_s, if_pos rfl]
    exact fin p k hb (Nat.le_refl _)
  | succ d ih =>
    intro fu p k hb hk hf
    obtain ⟨fu, rfl⟩ : ∃ m, fu = m + 1 := ⟨fu - 1, by omega⟩
    have hc : g p < 2 ^ 31 := Nat.lt_trans (hB.2.2 p (by omega)).2.1 (by decide)
    obtain ⟨q, hq, hi⟩ := ih fu (p + 1) (k + 1) (by omega) (by omega) (by omega)
    by_cases hl : dg_ (g p) = true
    · refine ⟨q, ?_, ?_⟩
      · show q = if (!dg_ (g p)) = true then p else _
        rw [if_neg (by rw [hl]; decide)]
        exact hq
      · have hd := hl
        unfold dg_ at hd
        rw [Bool.and_eq_true, decide_eq_true_eq, decide_eq_true_eq] at hd
        show fl_X12_token_163 (fb_X12_token_163 fu) _ _ = _
        unfold fl_X12_token_163
        rw [m_see hB (p := p) (by omega) _ rfl rfl rfl, bnd1_s, show f_X12_in (nI (g p)) 48 57 = some (if dg_ (g p) = true then 1 else 0) from x_digit hc, bnd1_s, if_neg (by rw [if_pos hl]; decide), bnd1_s]
        dsimp only
        rw [bnd_e, bnd_e, bnd_e, bnd_e, bnd_e, nI_1, nI_1]
        by_cases h4 : 4 ≤ k
        · rw [show vl g b (k + 1) = vl g b k from if_pos h4] at hi
          rw [if_pos (show (4 : Int32) ≤ nI k from nI_le (a := 4) h4 (by omega))]
          exact hi
        · rw [show vl g b (k + 1) = vl g b k * 10 + (g (b + k) - 48) from if_neg h4, hb] at hi
          rw [if_neg (show ¬ (4 : Int32) ≤ nI k from nI_ge (b := 4) (by omega) (by decide)), Int32.mul_comm, dig_nI hd.1]
          exact hi
    · refine ⟨p, ?_, ?_⟩
      · show p = if (!dg_ (g p)) = true then p else _
        rw [if_pos (by rw [Bool.not_eq_true] at hl; rw [hl]; rfl)]
      · show fl_X12_token_163 (fb_X12_token_163 fu) _ _ = _
        unfold fl_X12_token_163
        rw [m_see hB (p := p) (by omega) _ rfl rfl rfl, bnd1_s, show f_X12_in (nI (g p)) 48 57 = some (if dg_ (g p) = true then 1 else 0) from x_digit hc, bnd1_s, if_pos (by rw [if_neg hl])]
        exact fin p k hb (by omega)
end LX
