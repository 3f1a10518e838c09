section HE
/-- the SETTINGS' ranges -/
def SV (g : Nat → Int32) (c lg W BL o : Nat) : Prop := g 0 = nI c ∧ 8 ≤ c ∧ c ≤ 15 ∧ g 1 = nI lg ∧ 1 ≤ lg ∧ lg ≤ 40 ∧ g 2 = nI W ∧ 4 ≤ W ∧ W ≤ 15 ∧ g 4 = nI BL ∧ 2 ≤ BL ∧ BL ≤ 64 ∧ g 5 = nI o ∧ 1 ≤ o ∧ o ≤ 16
/-- odds over 16 to the n: a row of Pascal's, by the chance -/
def rstep (c : Nat) (l : List Nat) : List Nat := List.zipWith (· + ·) (l.map (· * (16 - c)) ++ [0]) (0 :: l.map (· * c))
def prow (c : Nat) : Nat → List Nat
  | 0 => [1]
  | n + 1 => rstep c (prow c n)
def TS (c n j : Nat) : Nat := ((prow c n).drop j).sum
def rareb (t b lg : Nat) : Bool := if lg ≤ b then decide (t ≤ 2 ^ (b - lg)) else decide (t = 0)
/-- the first k from a on, n of them, with p; else d -/
def fstk (p : Nat → Bool) (d : Nat) : Nat → Nat → Nat
  | _, 0 => d
  | a, n + 1 => if p a then a else fstk p d (a + 1) n
def lmR (c lg : Nat) : Nat := fstk (fun k => decide (lg ≤ 4 * (k - 1)) && decide (c ^ (k - 1) ≤ 2 ^ (4 * (k - 1) - lg))) 16 2 14
def lmP (c lg W : Nat) : Nat := fstk (fun k => rareb (TS c (W - 1) (k - 1)) (4 * (W - 1)) lg) (W + 1) 2 (W - 1)
def lmC (lg W : Nat) : Nat := fstk (fun k => rareb (TS 8 (W - 1) k) (4 * (W - 1)) lg) W 1 (W - 1)
def RWt (w : V10) (F : Nat → Int32) : Prop := F 25 = w.2.2.2.2.2.2.2.2.1 ∧ F 26 = w.2.2.2.2.2.2.2.2.2.1 ∧ F 27 = w.2.2.2.2.2.2.2.2.2.2.1 ∧ F 28 = w.2.2.2.2.2.2.2.2.2.2.2.1 ∧ F 29 = w.2.2.2.2.2.2.2.2.2.2.2.2.1 ∧ (w.2.2.2.2.2.2.2.2.1 ≠ 0 → F 30 = w.2.2.2.2.2.2.2.2.2.2.2.2.2 ∧ F 701 ≠ 0) ∧ (w.2.2.2.2.2.2.2.2.1 = 0 ∨ w.2.2.2.2.2.2.2.2.1 = 1 ∨ w.2.2.2.2.2.2.2.2.1 = 2 ∨ w.2.2.2.2.2.2.2.2.1 = 3)
/-- a watch of the class, a block of the reference -/
def R (B : Nat) (w : V10) (F : Nat → Int32) : Prop := ∃ c lg W BL o : Nat, SV w.1.1 c lg W BL o ∧ RS w.1 F ∧ (w.2.1.2.2.1 = nI (lmR c lg) ∧ w.2.1.2.2.2.1 = nI (lmP c lg W) ∧ w.2.1.2.2.2.2 = nI (lmC lg W)) ∧ RO w.2.2.1 F ∧ RC B W w.2.2.2.1 F ∧ RP BL w.2.2.2.2.1 F ∧ RQ 300 301 400 w.2.2.2.2.2.1 F ∧ RR w.2.2.2.2.2.2.1 F ∧ RWt w F
def LimM (v : V12) (w : V10) : Prop := v.2.2.2.2.2.2.2.2.2.2.2.2.2.2.2.1 = w.2.1.2.2.1 ∧ v.2.2.2.2.2.2.2.2.2.2.2.2.2.2.2.2.1 = w.2.1.2.2.2.1 ∧ v.2.2.2.2.2.2.2.2.2.2.2.2.2.2.2.2.2.1 = w.2.1.2.2.2.2 ∧ ∃ Y : Nat, Y ≤ 31 ∧ f_X7_yielded w.1 = some (nI Y) ∧ v.2.2.2.2.2.2.2.2.2.2.2.2.2.2.2.2.2.2.1 = nI Y
theorem x_58 {s : V7} {lim : V2} {src : V8} {cnt c2 : V1} {pool : V3} {q q2 : V4} {rws r2 : V6} {txt : V9} {st fa al sts li si b rr : Int32} (h1 : f_X4_append q b = some q2) (h2 : f_X6_append rws b = some r2) (h3 : f_X1_hear cnt b (s.1 2) = some c2) (h4 : f_X2_failures lim c2 = some rr) : fc_X10_hear_58 (s, lim, src, cnt, pool, q, rws, txt, st, fa, al, sts, li, si) b = (if rr = 0 then (if st = 2 then bnd1 (f_X3_feed pool s b) fun u => some (1, (s, lim, src, c2, u, q2, r2, txt, st, fa, al, sts, li, si)) else if si < s.1 3 then some (1, (s, lim, src, c2, pool, q2, r2, txt, st, fa, al, sts, li, si)) else some (1, (s, lim, src, c2, pool, q2, r2, txt, 2, fa, al, sts, li, si))) else bnd1 (f_X3_lose pool) fun u => some (1, (s, lim, src, c2, u, q2, r2, txt, 3, rr, al + 1, sts, li, si))) := by
  unfold fc_X10_hear_58 f_X10_raiseAlarm
  dsimp only
  rw [h1, bnd1_s, h2, bnd1_s, show (2 : Int32) = nI 2 from rfl, val_nI s (by decide), bnd1_s, h3, bnd1_s, h4, bnd1_s, show (3 : Int32) = nI 3 from rfl, val_nI s (by decide), bnd1_s, bnd_e]
  by_cases hr : rr = 0
  · rw [if_pos hr, if_pos hr]
  · rw [if_neg hr, if_neg hr]
    cases f_X3_lose pool with
    | none => rfl
    | some u => rfl
theorem m_39 {v : V12} {F2 F3 F4 : Nat → Int32} {b t0 rr : Int32} (h1 : f_X12_comesToHistory (v.1, upd v.2.1 29 (v.2.1 29 + 1), v.2.2) b = some (v.1, F2, v.2.2)) (h2 : f_X12_comesToRow (v.1, F2, v.2.2) b = some (v.1, F3, v.2.2)) (h3 : f_X12_tests (v.1, F3, v.2.2) b = some (rr, (v.1, F4, v.2.2))) : fc_X12_hears_39 v b t0 = (if rr ≤ 0 then (if t0 = 0 then (if F4 30 < F4 3 then some (1, (v.1, F4, v.2.2)) else some (1, (v.1, upd F4 25 2, v.2.2))) else bnd1 (f_X12_blocks (v.1, F4, v.2.2) b) fun u => some (1, u)) else bnd1 (f_X12_empties (v.1, upd (upd (upd F4 26 rr) 27 (F4 27 + 1)) 25 3, v.2.2)) fun u => some (1, u)) := by
  unfold fc_X12_hears_39
  simp (disch := decide) only [chk_in (show vp_in (29 : Int32) 4725 by unfold vp_in; decide), chk_in (show vp_in (30 : Int32) 4725 by unfold vp_in; decide), chk_in (show vp_in (3 : Int32) 4725 by unfold vp_in; decide), chk_in (show vp_in (25 : Int32) 4725 by unfold vp_in; decide), chk_in (show vp_in (26 : Int32) 4725 by unfold vp_in; decide), chk_in (show vp_in (27 : Int32) 4725 by unfold vp_in; decide), show ((29 : Int32)).toNatClampNeg = 29 from rfl, show ((30 : Int32)).toNatClampNeg = 30 from rfl, show ((3 : Int32)).toNatClampNeg = 3 from rfl, show ((25 : Int32)).toNatClampNeg = 25 from rfl, show ((26 : Int32)).toNatClampNeg = 26 from rfl, show ((27 : Int32)).toNatClampNeg = 27 from rfl, bnd_e]
  rw [h1, bnd1_s, h2, bnd1_s, h3, bnd2_s]
  rfl
theorem m_hears (v : V12) (b : Int32) : f_X12_hears v b = (if v.2.1 25 = 0 then some (0, v) else if v.2.1 25 = 3 then some (0, v) else if v.2.1 25 = 2 then fc_X12_hears_39 v b 1 else fc_X12_hears_39 v b 0) := by
  unfold f_X12_hears
  simp only [chk_in (show vp_in (25 : Int32) 4725 by unfold vp_in; decide), show ((25 : Int32)).toNatClampNeg = 25 from rfl]
end HE
