section RSG
/-- one number of a line, class -/
theorem x_rs {t : V9} {u0 : V5} {s : V7} {nm : Nat → Int32} {ps kd bg nu fa fq x2 x3 : Int32} {fu k : Nat} (hk : k < 3) (h3 : ¬ x3 ≤ nI k) (hT : f_X5_nextToken u0 t = some (s, nm, ps, kd, bg, nu, fa, fq)) : fb_X5_readSetting_66 t (fu + 1) u0 x2 x3 (nI k) = (if kd = 2 then (bnd1 (f_X5_canBe (s, nm, ps, kd, bg, nu, fa, fq) x2 (nI k)) fun r_4 => if r_4 = 0 then (bnd1 (f_X5_note (s, nm, ps, kd, bg, nu, fa, fq) 2) fun u_7 => fb_X5_readSetting_66 t fu (u_7.1, upd u_7.2.1 k u_7.2.2.2.2.2.1, u_7.2.2) x2 x3 (nI (k + 1))) else fb_X5_readSetting_66 t fu (s, upd nm k nu, ps, kd, bg, nu, fa, fq) x2 x3 (nI (k + 1))) else some (0, (s, nm, ps, kd, bg, nu, fa, fq))) := by
  show fl_X5_readSetting_66 t (fb_X5_readSetting_66 t fu) u0 x2 x3 (nI k) = _
  unfold fl_X5_readSetting_66
  rw [if_neg h3, hT, bnd1_s]
  dsimp only
  by_cases h2 : kd = 2
  · rw [if_pos h2, if_pos h2]
    cases f_X5_canBe (s, nm, ps, kd, bg, nu, fa, fq) x2 (nI k) with
    | none => rfl
    | some r =>
      rw [bnd1_s, bnd1_s]
      by_cases hr : r = 0
      · rw [if_pos hr, if_pos hr]
        cases f_X5_note (s, nm, ps, kd, bg, nu, fa, fq) 2 with
        | none => rfl
        | some u =>
          rw [bnd1_s, bnd1_s, chk_nI hk (by decide), bnd_e, bnd_e, nI_1, nI_clamp (by omega)]
      · rw [if_neg hr, if_neg hr, chk_nI hk (by decide), bnd_e, bnd_e, nI_1, nI_clamp (by omega)]
  · rw [if_neg h2, if_neg h2]
end RSG
