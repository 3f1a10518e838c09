-- ===== my library: worlds replaced at places, contracts in one form, calls in one row =====
section LIBA
/-- the value is named -/
def bnd {α ρ : Type} (x : α) (k : α → Option ρ) : Option ρ := k x
theorem bnd_el {α ρ : Type} {x : α} {k : α → Option ρ} {r : ρ} (h : bnd x k = some r) : ∃ y, y = x ∧ k y = some r := ⟨x, rfl, h⟩
def chkin {ρ : Type} (i : Int32) (n : Nat) (k : Option ρ) : Option ρ := if i < 0 ∨ n ≤ i.toNatClampNeg then none else k
theorem chkin_el {ρ : Type} {i : Int32} {n : Nat} {k : Option ρ} {r : ρ} (h : chkin i n k = some r) : vp_in i n ∧ k = some r := by
  unfold chkin at h
  by_cases q : i < 0 ∨ n ≤ i.toNatClampNeg
  · rw [if_pos q] at h; cases h
  · rw [if_neg q] at h; exact ⟨q, h⟩
def chknz {ρ : Type} (i : Int32) (k : Option ρ) : Option ρ := if i = 0 then none else k
theorem chknz_el {ρ : Type} {i : Int32} {k : Option ρ} {r : ρ} (h : chknz i k = some r) : ¬ i = 0 ∧ k = some r := by
  unfold chknz at h
  by_cases q : i = 0
  · rw [if_pos q] at h; cases h
  · rw [if_neg q] at h; exact ⟨q, h⟩
def chkbo {ρ : Type} (i : Int32) (k : Option ρ) : Option ρ := if i = 0 ∨ i = 1 then k else none
theorem chkbo_el {ρ : Type} {i : Int32} {k : Option ρ} {r : ρ} (h : chkbo i k = some r) : (i = 0 ∨ i = 1) ∧ k = some r := by
  unfold chkbo at h
  by_cases q : i = 0 ∨ i = 1
  · rw [if_pos q] at h; exact ⟨q, h⟩
  · rw [if_neg q] at h; cases h
def chkout {ρ : Type} (x : Int32) (lo hi : Int) (k : Option ρ) : Option ρ := if x.toInt < lo ∨ hi < x.toInt then k else none
theorem chkout_el {ρ : Type} {x : Int32} {lo hi : Int} {k : Option ρ} {r : ρ} (h : chkout x lo hi k = some r) : (x.toInt < lo ∨ hi < x.toInt) ∧ k = some r := by
  unfold chkout at h
  by_cases q : x.toInt < lo ∨ hi < x.toInt
  · rw [if_pos q] at h; exact ⟨q, h⟩
  · rw [if_neg q] at h; cases h
theorem ite_t {c : Prop} [Decidable c] {ρ : Type} {a b : Option ρ} {r : ρ} (q : c) (h : (if c then a else b) = some r) : a = some r := by rw [if_pos q] at h; exact h
theorem ite_f {c : Prop} [Decidable c] {ρ : Type} {a b : Option ρ} {r : ρ} (q : ¬ c) (h : (if c then a else b) = some r) : b = some r := by rw [if_neg q] at h; exact h
def bnd0 {ρ : Type} (o : Option Unit) (k : Option ρ) : Option ρ := match o with
  | some _ => k
  | none => none
theorem bnd0_el {ρ : Type} {o : Option Unit} {k : Option ρ} {r : ρ} (h : bnd0 o k = some r) : o = some () ∧ k = some r := by
  cases o with
  | none => cases h
  | some a => exact ⟨rfl, h⟩
def bnd1 {α ρ : Type} (o : Option α) (k : α → Option ρ) : Option ρ := match o with
  | some a => k a
  | none => none
theorem bnd1_el {α ρ : Type} {o : Option α} {k : α → Option ρ} {r : ρ} (h : bnd1 o k = some r) : ∃ a, o = some a ∧ k a = some r := by
  cases o with
  | none => cases h
  | some a => exact ⟨a, rfl, h⟩
def bnd2 {α β ρ : Type} (o : Option (α × β)) (k : α → β → Option ρ) : Option ρ := match o with
  | some a => k a.1 a.2
  | none => none
theorem bnd2_el {α β ρ : Type} {o : Option (α × β)} {k : α → β → Option ρ} {r : ρ} (h : bnd2 o k = some r) : ∃ a b, o = some (a, b) ∧ k a b = some r := by
  cases o with
  | none => cases h
  | some a => exact ⟨a.1, a.2, rfl, h⟩
def bnd3 {α β γ ρ : Type} (o : Option (α × β × γ)) (k : α → β → γ → Option ρ) : Option ρ := match o with
  | some a => k a.1 a.2.1 a.2.2
  | none => none
theorem bnd3_el {α β γ ρ : Type} {o : Option (α × β × γ)} {k : α → β → γ → Option ρ} {r : ρ} (h : bnd3 o k = some r) : ∃ a b c, o = some (a, b, c) ∧ k a b c = some r := by
  cases o with
  | none => cases h
  | some a => exact ⟨a.1, a.2.1, a.2.2, rfl, h⟩
def bnd4 {α β γ δ ρ : Type} (o : Option (α × β × γ × δ)) (k : α → β → γ → δ → Option ρ) : Option ρ := match o with
  | some a => k a.1 a.2.1 a.2.2.1 a.2.2.2
  | none => none
theorem bnd4_el {α β γ δ ρ : Type} {o : Option (α × β × γ × δ)} {k : α → β → γ → δ → Option ρ} {r : ρ} (h : bnd4 o k = some r) : ∃ a b c d, o = some (a, b, c, d) ∧ k a b c d = some r := by
  cases o with
  | none => cases h
  | some a => exact ⟨a.1, a.2.1, a.2.2.1, a.2.2.2, rfl, h⟩
/-- fuel of every loop -/
def FU : Nat := 8589934592
end LIBA
section LIBB
/-- a world with cells replaced: by place, which of wn stands there -/
def wmkA : List (Option Nat) → va_W → va_W → va_W
  | [], ws, _ => ws
  | _ :: _, [], _ => []
  | o :: ms, w :: ws, wn => (match o with
    | none => w
    | some j => wn.getD j w) :: wmkA ms ws wn
def wmk (ws : va_W) (ms : List (Option Nat)) (wn : va_W) : va_W := wmkA ms ws wn
theorem wmk_get : ∀ (ws : va_W) (ms : List (Option Nat)) (wn : va_W) (k : Nat) (q : Nat × va_E), (wmk ws ms wn)[k]? = some q → ∃ w, ws[k]? = some w ∧ ((∃ j : Nat, ms[k]? = some (some j) ∧ q = wn.getD j w) ∨ ((∀ j : Nat, ms[k]? ≠ some (some j)) ∧ q = w))
  | ws, [], wn, k, q, h => ⟨q, h, Or.inr ⟨fun j => by simp, rfl⟩⟩
  | [], o :: ms, wn, k, q, h => by simp [wmk, wmkA] at h
  | w :: ws, none :: ms, wn, 0, q, h => ⟨w, rfl, Or.inr ⟨fun j => by simp, by simpa [wmk, wmkA] using h.symm⟩⟩
  | w :: ws, some j :: ms, wn, 0, q, h => ⟨w, rfl, Or.inl ⟨j, rfl, by simpa [wmk, wmkA] using h.symm⟩⟩
  | w :: ws, none :: ms, wn, k + 1, q, h => by
    obtain ⟨w', h1, h2⟩ := wmk_get ws ms wn k q (by simpa [wmk, wmkA] using h)
    exact ⟨w', by simpa using h1, by simpa using h2⟩
  | w :: ws, some j :: ms, wn, k + 1, q, h => by
    obtain ⟨w', h1, h2⟩ := wmk_get ws ms wn k q (by simpa [wmk, wmkA] using h)
    exact ⟨w', by simpa using h1, by simpa using h2⟩
theorem wmk_len : ∀ (ws : va_W) (ms : List (Option Nat)) (wn : va_W), (wmk ws ms wn).length = ws.length
  | ws, [], _ => rfl
  | [], o :: ms, _ => rfl
  | w :: ws, none :: ms, wn => by have := wmk_len ws ms wn; simp [wmk, wmkA] at this ⊢; exact this
  | w :: ws, some j :: ms, wn => by have := wmk_len ws ms wn; simp [wmk, wmkA] at this ⊢; exact this
/-- 'ms' names by place what 'is' names by number -/
def wmOK (ms : List (Option Nat)) (is : List Nat) : Bool := (List.range ms.length).all (fun k => match ms[k]? with
  | some (some j) => is[j]? == some k
  | _ => !(is.contains k)) && is.all (fun i => Nat.blt i ms.length)
theorem wmOK_some {ms : List (Option Nat)} {is : List Nat} (h : wmOK ms is = true) {k j : Nat} (hk : ms[k]? = some (some j)) : is[j]? = some k := by
  have h1 := (Bool.and_eq_true _ _ ▸ h : _ ∧ _).1
  have hl : k < ms.length := (List.getElem?_eq_some_iff.mp hk).1
  have h2 := List.all_eq_true.mp h1 k (List.mem_range.mpr hl)
  rw [hk] at h2
  simpa using h2
theorem wmOK_none {ms : List (Option Nat)} {is : List Nat} (h : wmOK ms is = true) {k : Nat} (hk : ∀ j : Nat, ms[k]? ≠ some (some j)) : k ∉ is := by
  have h1 := (Bool.and_eq_true _ _ ▸ h : _ ∧ _)
  intro hm
  have hl : k < ms.length := Nat.blt_eq ▸ (List.all_eq_true.mp h1.2 k hm)
  have h2 := List.all_eq_true.mp h1.1 k (List.mem_range.mpr hl)
  cases hq : ms[k]? with
  | none => rw [hq] at h2; simp at h2; exact h2 hm
  | some o =>
    cases o with
    | none => rw [hq] at h2; simp at h2; exact h2 hm
    | some j => exact hk j hq
theorem va_D_fst {A : Nat → Prop} {w1 w2 : va_W} (h : w1.map Prod.fst = w2.map Prod.fst) (hD : va_D A w2) : va_D A w1 := by
  have tr : ∀ (k : Nat) (q : Nat × va_E), w1[k]? = some q → ∃ q', w2[k]? = some q' ∧ q'.1 = q.1 := by
    intro k q hq
    have : (w2.map Prod.fst)[k]? = some q.1 := by rw [← h, List.getElem?_map, hq]; rfl
    rw [List.getElem?_map] at this
    cases h2 : w2[k]? with
    | none => rw [h2] at this; cases this
    | some q' => rw [h2] at this; exact ⟨q', rfl, Option.some.inj this⟩
  refine ⟨fun i j p q hp hq e => ?_, fun k q hq => ?_⟩
  · obtain ⟨p', h1, e1⟩ := tr i p hp
    obtain ⟨q', h2, e2⟩ := tr j q hq
    exact hD.1 i j p' q' h1 h2 (by rw [e1, e2, e])
  · obtain ⟨q', h1, e1⟩ := tr k q hq
    rw [← e1]; exact hD.2 k q' h1
theorem wat {is : List Nat} {ws w : va_W} (hs : is.map (fun i => ws[i]?) = w.map some) (k : Nat) (q : Nat × va_E) (hq : w[k]? = some q) : ∃ i : Nat, is[k]? = some i ∧ ws[i]? = some q := by
  have h1 : (is.map (fun i => ws[i]?))[k]? = some (some q) := by rw [hs, List.getElem?_map, hq]; rfl
  rw [List.getElem?_map] at h1
  cases hi : is[k]? with
  | none => rw [hi] at h1; cases h1
  | some i => rw [hi] at h1; exact ⟨i, rfl, Option.some.inj h1⟩
theorem va_P_pick {D : va_G} {cl : List vw_C} {is : List Nat} {ws wc : va_W} {H : Heap} (hP : va_P D cl ws H) (hC : is.map (fun i => ws[i]?) = wc.map some) : va_P D cl wc H := fun k q hq => by
  obtain ⟨i, -, h⟩ := wat hC k q hq
  exact hP i q h
theorem wmk_P {A : Nat → Prop} {D : va_G} {cl : List vw_C} {ws wc wn : va_W} {H H1 : Heap} (hP : va_P D cl ws H) (hD : va_D A ws) (is : List Nat) (ms : List (Option Nat)) (hm : wmOK ms is = true) (hC : is.map (fun i => ws[i]?) = wc.map some) (hf : wn.map Prod.fst = wc.map Prod.fst)
    (hk : ∀ q : Nat, q < H.size → ¬ va_A wc H.size q → H1[q]? = H[q]?) (hP1 : va_P D cl wn H1) : va_P D cl (wmk ws ms wn) H1 ∧ va_D A (wmk ws ms wn) := by
  have hlen : wn.length = wc.length := by simpa using congrArg List.length hf
  have key : ∀ (j k : Nat) (w : Nat × va_E), is[j]? = some k → ws[k]? = some w → wc[j]? = some w := by
    intro j k w h1 h2
    have h3 : (is.map (fun i => ws[i]?))[j]? = some (some w) := by rw [List.getElem?_map, h1]; simp [h2]
    rw [hC, List.getElem?_map] at h3
    cases hq : wc[j]? with
    | none => rw [hq] at h3; cases h3
    | some z => rw [hq] at h3; exact Option.some.inj h3
  have new : ∀ (j : Nat) (w : Nat × va_E), wc[j]? = some w → ∃ q, wn[j]? = some q ∧ q.1 = w.1 := by
    intro j w h1
    have hl : j < wn.length := by rw [hlen]; exact (List.getElem?_eq_some_iff.mp h1).1
    refine ⟨wn[j], List.getElem?_eq_getElem hl, ?_⟩
    have h2 : (wn.map Prod.fst)[j]? = some w.1 := by rw [hf, List.getElem?_map, h1]; rfl
    rw [List.getElem?_map, List.getElem?_eq_getElem hl] at h2
    exact Option.some.inj h2
  refine ⟨fun k q h => ?_, va_D_fst ?_ hD⟩
  · obtain ⟨w, h1, h2⟩ := wmk_get ws ms wn k q h
    rcases h2 with ⟨j, g1, g2⟩ | ⟨g1, g2⟩
    · obtain ⟨q', e1, e2⟩ := new j w (key j k w (wmOK_some hm g1) h1)
      have : q = q' := by rw [g2, List.getD_eq_getElem?_getD, e1]; rfl
      rw [this]; exact hP1 j q' e1
    · subst g2
      have hl := (hP k q h1).lt
      refine (hP k q h1).kept (hk q.1 hl fun ha => ?_)
      rcases ha with ⟨k2, e, h3⟩ | h3
      · obtain ⟨i, z1, z2⟩ := wat hC k2 (q.1, e) h3
        have := hD.1 k i q (q.1, e) h1 z2 rfl
        subst this
        exact wmOK_none hm g1 (List.mem_of_getElem? z1)
      · omega
  · apply List.ext_getElem?
    intro k
    rw [List.getElem?_map, List.getElem?_map]
    cases hq : (wmk ws ms wn)[k]? with
    | none =>
      have : ws[k]? = none := List.getElem?_eq_none (by rw [← wmk_len ws ms wn]; exact List.getElem?_eq_none_iff.mp hq)
      rw [this]
    | some q =>
      obtain ⟨w, h1, h2⟩ := wmk_get ws ms wn k q hq
      rw [h1]
      rcases h2 with ⟨j, g1, g2⟩ | ⟨g1, g2⟩
      · obtain ⟨q', e1, e2⟩ := new j w (key j k w (wmOK_some hm g1) h1)
        have : q = q' := by rw [g2, List.getD_eq_getElem?_getD, e1]; rfl
        simp [this, e2]
      · rw [g2]
end LIBB
