theorem b0s {α β : Type} {x : α} {k : α → Option β} : bnd x k = k x := rfl
theorem b1s {α β : Type} {a : α} {k : α → Option β} : bnd1 (some a) k = k a := rfl
theorem b2s {α β γ : Type} {a : α} {b : β} {k : α → β → Option γ} : bnd2 (some (a, b)) k = k a b := rfl
theorem both2 {α β : Type} {A : Option (Int32 × α)} {B : Option (Int32 × β)} (c : Int32) (h1 : ∃ v, A = some (c, v)) (h2 : ∃ w, B = some (c, w)) : (bnd2 A fun r _ => bnd2 B fun r2 _ => if r = r2 then some () else none) = some () := by
  obtain ⟨v, rfl⟩ := h1
  obtain ⟨w, rfl⟩ := h2
  show (if c = c then some () else none) = some ()
  rw [if_pos rfl]
theorem both1 {β : Type} {A : Option Int32} {B : Option (Int32 × β)} (c : Int32) (h1 : A = some c) (h2 : ∃ w, B = some (c, w)) : (bnd1 A fun r => bnd2 B fun r2 _ => if r = r2 then some () else none) = some () := by
  obtain ⟨w, rfl⟩ := h2
  subst h1
  show (if c = c then some () else none) = some ()
  rw [if_pos rfl]
theorem cl {ρ : Type} {i : Int32} {N : Nat} {k : Option ρ} (h : ¬ (i < 0 ∨ N ≤ i.toNatClampNeg)) : chkin i N k = k := by
  unfold chkin; rw [if_neg h]
theorem i_lt {a b : Int32} : a < b ↔ a.toInt < b.toInt := Int32.lt_iff_toInt_lt
theorem i_le {a b : Int32} : a ≤ b ↔ a.toInt ≤ b.toInt := Int32.le_iff_toInt_le
theorem in_empty {p a b : Int32} (h : b < a) : f_X12_in p a b = some 0 := by
  unfold f_X12_in
  by_cases h1 : p < a
  · rw [if_pos h1]
  · rw [if_neg h1, if_pos]
    rw [i_lt] at *
    omega
theorem in_no {p a b : Int32} (h : p < a ∨ b < p) : f_X12_in p a b = some 0 := by
  unfold f_X12_in
  by_cases h1 : p < a
  · rw [if_pos h1]
  · rw [if_neg h1, if_pos (h.resolve_left h1)]
theorem in_yes {p a b : Int32} (h1 : ¬ p < a) (h2 : ¬ b < p) : f_X12_in p a b = some 1 := by
  unfold f_X12_in
  rw [if_neg h1, if_neg h2]
theorem M_isThere {w : V12} {p a : Int32} (h : w.2.1 300 = 0) (ha : 0 < a) : f_X12_isThere w p a = some 0 := by
  unfold f_X12_isThere
  rw [cl (by decide), show w.2.1 ((300 : Int32)).toNatClampNeg = 0 from h, in_empty ha]
  show chkbo 0 (some 0) = some 0
  unfold chkbo
  rw [if_pos (Or.inl rfl)]
theorem X_load {v : V11} {p a : Int32} (h : v.1.2.2.2.2.2.1.2.2 = 0) (ha : 0 < a) : f_X11_loadLatest v p a = some (0, v) := by
  unfold f_X11_loadLatest
  by_cases h1 : p < a
  · rw [if_pos h1]
  · rw [if_neg h1, h, if_neg]
    rw [i_lt] at *
    rw [i_le]
    omega
theorem X_take {v : V11} {p : Int32} (h : v.1.2.2.2.2.1.1.2.2 = 0) : ∃ v', f_X11_take v p = some (-1, v') := by
  unfold f_X11_take
  by_cases h1 : p < 1
  · rw [if_pos h1]; exact ⟨_, rfl⟩
  · rw [if_neg h1]
    by_cases h2 : p ≤ 30
    · rw [if_pos h2]
      unfold f_X3_takeBits
      rw [h, if_neg]
      · exact ⟨_, rfl⟩
      · rw [i_lt] at h1
        rw [i_le]
        have e1 : (1 : Int32).toInt = 1 := rfl
        have e0 : (0 : Int32).toInt = 0 := rfl
        omega
    · rw [if_neg h2]; exact ⟨_, rfl⟩
theorem M_take {w : V12} {p : Int32} (h : w.2.1 43 = 0) : ∃ w', f_X12_take w p = some (-1, w') := by
  unfold f_X12_take
  by_cases h1 : p < 1 ∨ 30 < p
  · rw [in_no h1]; exact ⟨_, rfl⟩
  · rw [in_yes (fun q => h1 (Or.inl q)) (fun q => h1 (Or.inr q))]
    rw [b1s, if_neg (by decide), cl (by decide), show w.2.1 ((43 : Int32)).toNatClampNeg = 0 from h, if_neg]
    · exact ⟨_, rfl⟩
    · have h2 : ¬ p < 1 := fun q => h1 (Or.inl q)
      rw [i_lt] at h2
      rw [i_le]
      have e1 : (1 : Int32).toInt = 1 := rfl
      have e0 : (0 : Int32).toInt = 0 := rfl
      omega
theorem X_bit {v : V4} {p : Int32} (h : v.2.2 = 0) : f_X4_bitAt v p = some (-1) := by
  unfold f_X4_bitAt
  by_cases h1 : p < 0
  · rw [if_pos h1]
  · rw [if_neg h1, h, if_neg h1]
theorem M_hist {w : V12} {p : Int32} (h : w.2.1 300 = 0) : ∃ w', f_X12_history w p = some (-1, w') := by
  unfold f_X12_history
  rw [cl (by decide), show w.2.1 ((300 : Int32)).toNatClampNeg = 0 from h, in_empty (by decide)]
  exact ⟨_, rfl⟩
theorem M_pool {w : V12} {p : Int32} (h : w.2.1 43 = 0) : ∃ w', f_X12_pool w p = some (-1, w') := by
  unfold f_X12_pool
  rw [cl (by decide), show w.2.1 ((43 : Int32)).toNatClampNeg = 0 from h, in_empty (by decide)]
  exact ⟨_, rfl⟩
theorem X_has {v : V6} {p : Int32} (h : v.2.2 = 0) : f_X6_has v p = some 0 := by
  unfold f_X6_has
  by_cases h1 : p < 0
  · rw [if_pos h1]
  · rw [if_neg h1, h, if_pos]
    rw [i_lt] at h1
    rw [i_le]
    omega
theorem X_row {v : V11} {p q r : Int32} (h : v.1.2.2.2.2.2.2.1.2.2 = 0) : f_X11_row v p q r = some (-1) := by
  unfold f_X11_row f_X6_sampleOf f_X6_lengthOf
  rw [X_has h]
  by_cases h1 : r = 0
  · rw [if_pos h1]; rfl
  · rw [if_neg h1]; rfl
theorem M_row {w : V12} {p q r : Int32} (h : w.2.1 701 = 0) : ∃ w', f_X12_row w p q r = some (-1, w') := by
  unfold f_X12_row
  rw [cl (by decide), show w.2.1 ((701 : Int32)).toNatClampNeg = 0 from h, in_empty (by decide)]
  exact ⟨_, rfl⟩
theorem X_bound {v : V11} {p q r : Int32} (h : v.1.2.2.2.2.2.1.2.2 = 0) : ∃ v', f_X11_bound v p q r = some (-1, v') := by
  unfold f_X11_bound
  by_cases h1 : p < 0
  · rw [if_pos h1]; exact ⟨_, rfl⟩
  · rw [if_neg h1]
    by_cases h2 : 2 < p
    · rw [if_pos h2]; exact ⟨_, rfl⟩
    · rw [if_neg h2, X_load h (by decide)]; exact ⟨_, rfl⟩
theorem M_bound {w : V12} {p q r : Int32} (h : w.2.1 300 = 0) : ∃ w', f_X12_bound w p q r = some (-1, w') := by
  unfold f_X12_bound
  by_cases h1 : p < 0 ∨ 2 < p
  · rw [in_no h1]; exact ⟨_, rfl⟩
  · rw [in_yes (fun q => h1 (Or.inl q)) (fun q => h1 (Or.inr q)), M_isThere (by exact h) (by decide)]
    exact ⟨_, rfl⟩
theorem X_holds {v : V11} {p : Int32} (h : v.1.2.2.2.2.2.1.2.2 = 0) : ∃ v', f_X11_holds v p = some (-1, v') := by
  unfold f_X11_holds
  rw [X_load h (by decide)]; exact ⟨_, rfl⟩
theorem M_holds {w : V12} {p : Int32} (h : w.2.1 300 = 0) : ∃ w', f_X12_holds w p = some (-1, w') := by
  unfold f_X12_holds
  rw [M_isThere (by exact h) (by decide)]; exact ⟨_, rfl⟩
theorem X_claim {v : V11} {p : Int32} (h : v.1.2.2.2.2.2.1.2.2 = 0) : ∃ v', f_X11_claim v p = some (-1, v') := by
  unfold f_X11_claim
  rw [X_load h (by decide)]; exact ⟨_, rfl⟩
theorem M_claim {w : V12} {p : Int32} (h : w.2.1 300 = 0) : ∃ w', f_X12_claim w p = some (-1, w') := by
  unfold f_X12_claim
  rw [M_isThere (by exact h) (by decide)]; exact ⟨_, rfl⟩
theorem X_loadT {v : V11} {p q : Int32} (h : v.1.2.2.2.2.2.1.2.2 = 0) : ∃ v', f_X11_loadTuples v p q = some (0, v') := by
  unfold f_X11_loadTuples
  by_cases h1 : q < 1
  · rw [if_pos h1]; exact ⟨_, rfl⟩
  rw [if_neg h1]
  by_cases h2 : 8 < q
  · rw [if_pos h2]; exact ⟨_, rfl⟩
  rw [if_neg h2]
  by_cases h3 : p < q
  · rw [if_pos h3]; exact ⟨_, rfl⟩
  rw [if_neg h3, X_load h (by decide)]
  exact ⟨_, rfl⟩
theorem X_tuple {v : V11} {p q : Int32} (h : v.1.2.2.2.2.2.1.2.2 = 0) : ∃ v', f_X11_tuple v p q = some (-1, v') := by
  unfold f_X11_tuple
  obtain ⟨v', e⟩ := X_loadT (p := p) (q := q) h
  rw [e]; exact ⟨_, rfl⟩
theorem X_spreads {v : V11} {p q : Int32} (h : v.1.2.2.2.2.2.1.2.2 = 0) : ∃ v', f_X11_spreads v p q = some (0, v') := by
  unfold f_X11_spreads
  obtain ⟨v', e⟩ := X_loadT (p := p) (q := q) h
  rw [e]; exact ⟨_, rfl⟩
theorem M_isTuple {w : V12} {p q : Int32} (h : w.2.1 300 = 0) : f_X12_isTuple w p q = some 0 := by
  unfold f_X12_isTuple
  rw [M_isThere h (by decide)]; rfl
theorem M_tuple {w : V12} {p q : Int32} (h : w.2.1 300 = 0) : ∃ w', f_X12_tuple w p q = some (-1, w') := by
  unfold f_X12_tuple
  rw [M_isTuple (by exact h)]; exact ⟨_, rfl⟩
theorem M_spreads {w : V12} {p q : Int32} (h : w.2.1 300 = 0) : ∃ w', f_X12_spreads w p q = some (0, w') := by
  unfold f_X12_spreads
  rw [M_isTuple (by exact h)]; exact ⟨_, rfl⟩
theorem X_lag {v : V11} {p q : Int32} (h : v.1.2.2.2.2.2.1.2.2 = 0) : ∃ v', f_X11_lag v p q = some (-1, v') := by
  unfold f_X11_lag
  by_cases h1 : q < 1
  · rw [if_pos h1]; exact ⟨_, rfl⟩
  rw [if_neg h1]
  by_cases h2 : 32 < q
  · rw [if_pos h2]; exact ⟨_, rfl⟩
  rw [if_neg h2]
  by_cases h3 : p ≤ q
  · rw [if_pos h3]; exact ⟨_, rfl⟩
  rw [if_neg h3, X_load h (by decide)]
  exact ⟨_, rfl⟩
theorem M_lag {w : V12} {p q : Int32} (h : w.2.1 300 = 0) : ∃ w', f_X12_lag w p q = some (-1, w') := by
  unfold f_X12_lag
  rw [M_isThere (by exact h) (by decide)]; exact ⟨_, rfl⟩
theorem X_echo {v : V11} {p : Int32} (h : v.1.2.2.2.2.2.1.2.2 = 0) : ∃ v', f_X11_echo v p = some (-1, v') := by
  unfold f_X11_echo
  rw [X_load h (by decide)]; exact ⟨_, rfl⟩
theorem M_echo {w : V12} {p : Int32} (h : w.2.1 300 = 0) : ∃ w', f_X12_echo w p = some (-1, w') := by
  unfold f_X12_echo
  rw [M_isThere (by exact h) (by decide)]; exact ⟨_, rfl⟩
theorem X_longest {v : V11} {p q : Int32} (h : v.1.2.2.2.2.2.1.2.2 = 0) : ∃ v', f_X11_longest v p q = some (-1, v') := by
  unfold f_X11_longest
  rw [X_load h (by decide)]; exact ⟨_, rfl⟩
theorem M_longest {w : V12} {p q : Int32} (h : w.2.1 300 = 0) : ∃ w', f_X12_longest w p q = some (-1, w') := by
  unfold f_X12_longest
  rw [M_isThere (by exact h) (by decide)]; exact ⟨_, rfl⟩
