section WS
theorem fst_all (p : Nat → Bool) (d : Nat) : ∀ (m a : Nat), (∀ j, a ≤ j → j < a + m → p j = false) → fstk p d a m = d
  | 0, _, _ => rfl
  | m + 1, a, h => by
    show (if p a = true then a else fstk p d (a + 1) m) = d
    rw [if_neg (by rw [h a (by omega) (by omega)]; decide)]
    exact fst_all p d m (a + 1) (fun j h1 h2 => h j (by omega) (by omega))
/-- which of the ten words; 10: none -/
def sx (x : Nat) : Nat := fstk (fun w => decide (x = Cn w)) 10 0 10
theorem wordOf_nI : ∀ k, k < 10 → f_X5_wordOf (nI k) = some k := by decide
theorem x_sett {t : V9} {n : Nat} {g : Nat → Nat} {tx : Nat → Int32} (hB : HB t n g tx) {b e_ : Nat} (hb : b < e_) (he : e_ ≤ n) {u : V5} (u1 : u.2.2.2.2.1 = nI b) (u2 : u.2.2.1 = nI e_) : ∀ (d fu k : Nat), k + d = 10 → d < fu → fb_X5_settingOf_2 u t fu (nI k) = some (if fstk (fun w => decide (wN g b e_ = Cn w)) 10 k d = 10 then -1 else nI (fstk (fun w => decide (wN g b e_ = Cn w)) 10 k d)) := by
  intro d
  induction d with
  | zero =>
    intro fu k hk hf
    obtain ⟨fu, rfl⟩ : ∃ m, fu = m + 1 := ⟨fu - 1, by omega⟩
    have hk : k = 10 := by omega
    subst hk
    show fl_X5_settingOf_2 u t (fb_X5_settingOf_2 u t fu) _ = _
    unfold fl_X5_settingOf_2
    rw [if_pos (show (9 : Int32) < nI 10 by decide), show fstk (fun w => decide (wN g b e_ = Cn w)) 10 10 0 = 10 from rfl, if_pos rfl]
  | succ d ih =>
    intro fu k hk hf
    obtain ⟨fu, rfl⟩ : ∃ m, fu = m + 1 := ⟨fu - 1, by omega⟩
    have hi := ih fu (k + 1) (by omega) (by omega)
    show fl_X5_settingOf_2 u t (fb_X5_settingOf_2 u t fu) _ = _
    unfold fl_X5_settingOf_2
    rw [if_neg (show ¬ (9 : Int32) < nI k from nI_nlt (a := 9) (by omega) (by decide)), wordOf_nI k (by omega), bnd1_s, u1, u2, has_rel hB (by omega) hb he, bnd1_s, bnd_e, nI_1]
    by_cases h : wN g b e_ = Cn k
    · have e : fstk (fun w => decide (wN g b e_ = Cn w)) 10 k (d + 1) = k := if_pos (decide_eq_true h)
      rw [e, if_neg (by rw [if_pos h]; decide), if_neg (by omega)]
    · have e : fstk (fun w => decide (wN g b e_ = Cn w)) 10 k (d + 1) = fstk (fun w => decide (wN g b e_ = Cn w)) 10 (k + 1) d := if_neg (by rw [decide_eq_true_eq]; exact h)
      rw [e, if_pos (by rw [if_neg h])]
      exact hi
theorem m_sett {wo : Int64} {x : Nat} (h : wo.toBitVec.toNat = x) : f_X12_settingOf wo = some (if sx x < 9 then nI (sx x) else -1) ∧ (wo = 495875089259 ↔ sx x = 9) := by
  have key : ∀ c : Int64, wo = c ↔ x = c.toBitVec.toNat := fun c => ⟨fun e => by rw [← h, e], fun e => Int64.toBitVec_inj.mp (BitVec.eq_of_toNat_eq (by rw [h, e]))⟩
  by_cases h0 : x = 109299962372965
  · rw [(key 109299962372965).mpr h0, h0]
    decide +kernel
  by_cases h1 : x = 7106407
  · rw [(key 7106407).mpr h1, h1]
    decide +kernel
  by_cases h2 : x = 131294707347319
  · rw [(key 131294707347319).mpr h2, h2]
    decide +kernel
  by_cases h3 : x = 495873782388
  · rw [(key 495873782388).mpr h3, h3]
    decide +kernel
  by_cases h4 : x = 422726034283
  · rw [(key 422726034283).mpr h4, h4]
    decide +kernel
  by_cases h5 : x = 7304564
  · rw [(key 7304564).mpr h5, h5]
    decide +kernel
  by_cases h6 : x = 1651073395
  · rw [(key 1651073395).mpr h6, h6]
    decide +kernel
  by_cases h7 : x = 495874302827
  · rw [(key 495874302827).mpr h7, h7]
    decide +kernel
  by_cases h8 : x = 1936024932
  · rw [(key 1936024932).mpr h8, h8]
    decide +kernel
  by_cases h9 : x = 495875089259
  · rw [(key 495875089259).mpr h9, h9]
    decide +kernel
  have hs : sx x = 10 := fst_all _ 10 10 0 (fun j _ hj => by
    match j, hj with
    | 0, _ => exact decide_eq_false h0
    | 1, _ => exact decide_eq_false h1
    | 2, _ => exact decide_eq_false h2
    | 3, _ => exact decide_eq_false h3
    | 4, _ => exact decide_eq_false h4
    | 5, _ => exact decide_eq_false h5
    | 6, _ => exact decide_eq_false h6
    | 7, _ => exact decide_eq_false h7
    | 8, _ => exact decide_eq_false h8
    | 9, _ => exact decide_eq_false h9
    | j + 10, hj => exact absurd hj (by omega))
  rw [hs]
  refine ⟨?_, fun e => absurd ((key 495875089259).mp e) h9, fun e => absurd e (by decide)⟩
  unfold f_X12_settingOf
  rw [if_neg (show ¬ wo = 109299962372965 from fun e => h0 ((key 109299962372965).mp e)), if_neg (show ¬ wo = 7106407 from fun e => h1 ((key 7106407).mp e)), if_neg (show ¬ wo = 131294707347319 from fun e => h2 ((key 131294707347319).mp e)), if_neg (show ¬ wo = 495873782388 from fun e => h3 ((key 495873782388).mp e)), if_neg (show ¬ wo = 422726034283 from fun e => h4 ((key 422726034283).mp e)), if_neg (show ¬ wo = 7304564 from fun e => h5 ((key 7304564).mp e)), if_neg (show ¬ wo = 1651073395 from fun e => h6 ((key 1651073395).mp e)), if_neg (show ¬ wo = 495874302827 from fun e => h7 ((key 495874302827).mp e)), if_neg (show ¬ wo = 1936024932 from fun e => h8 ((key 1936024932).mp e)), if_neg (by decide)]
/-- the word that both read -/
theorem word_N {t : V9} {n : Nat} {g : Nat → Nat} {tx : Nat → Int32} (hB : HB t n g tx) {b e_ : Nat} (hb : b < e_) (he : e_ ≤ n) : (if e_ - b ≤ 8 then wd g b (e_ - b) else 0 : Int64).toBitVec.toNat = wN g b e_ := by
  unfold wN
  by_cases h8 : e_ - b ≤ 8
  · rw [if_pos h8, if_pos h8]
    exact wd_N g b _ h8 (fun i hi => (hB.2.2 (b + i) (by omega)).2.1)
  · rw [if_neg h8, if_neg h8]
    rfl
end WS
